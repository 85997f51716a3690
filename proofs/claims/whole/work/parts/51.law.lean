theorem g_L_13 : CVt RL 13 yX11_feed cX11_feed 6 (some .int) 5 11 := CVt.of (T := TX11) (N := 9) 541 542 (by decide +kernel) (by decide +kernel) (by decide) rfl (CB.of 540 1 543 (by decide +kernel) (by decide +kernel) (by decide +kernel) (by decide +kernel))
theorem g_L_18 : CVt RL 18 yX11_cut cX11_cut 3 (some .int) 1 11 := CVt.of (T := TX11) (N := 9) 553 554 (by decide +kernel) (by decide +kernel) (by decide) rfl (CB.of 552 1 555 (by decide +kernel) (by decide +kernel) (by decide +kernel) (by decide +kernel))
theorem g_L_23 : CVt RL 23 yX11_list cX11_list 3 (some .int) 1 11 := CVt.of (T := TX11) (N := 9) 557 558 (by decide +kernel) (by decide +kernel) (by decide) rfl (CB.of 556 1 559 (by decide +kernel) (by decide +kernel) (by decide +kernel) (by decide +kernel))
theorem g_L_27 : CVt RL 27 yX11_lock cX11_lock 2 (some .int) 1 11 := CVt.of (T := TX11) (N := 9) 796 797 (by decide +kernel) (by decide +kernel) (by decide) rfl (CB.of 795 1 798 (by decide +kernel) (by decide +kernel) (by decide +kernel) (by decide +kernel))
theorem g_L_31 : CVt RL 31 yX11_rules cX11_rules 1 (some .int) 0 11 := CVt.of (T := TX11) (N := 9) 835 836 (by decide +kernel) (by decide +kernel) (by decide) rfl (CB.of 834 1 837 (by decide +kernel) (by decide +kernel) (by decide +kernel) (by decide +kernel))
theorem g_L_36 : CVt RL 36 yX11_shares cX11_shares 1 (some .int) 0 11 := CVt.of (T := TX11) (N := 9) 872 873 (by decide +kernel) (by decide +kernel) (by decide) rfl (CB.of 871 1 874 (by decide +kernel) (by decide +kernel) (by decide +kernel) (by decide +kernel))
theorem g_L_40 : CVt RL 40 yX11_fault cX11_fault 1 (some .int) 0 11 := CVt.of (T := TX11) (N := 9) 907 908 (by decide +kernel) (by decide +kernel) (by decide) rfl (CB.of 906 1 909 (by decide +kernel) (by decide +kernel) (by decide +kernel) (by decide +kernel))
theorem g_L_44 : CVt RL 44 yX11_tracks cX11_tracks 6 (some .int) 4 11 := CVt.of (T := TX11) (N := 9) 911 912 (by decide +kernel) (by decide +kernel) (by decide) rfl (CB.of 910 1 913 (by decide +kernel) (by decide +kernel) (by decide +kernel) (by decide +kernel))
theorem g_L_49 : CVt RL 49 yX11_go cX11_go 3 (some .boolean) 1 11 := CVt.of (T := TX11) (N := 9) 927 928 (by decide +kernel) (by decide +kernel) (by decide) rfl (CB.of 926 1 929 (by decide +kernel) (by decide +kernel) (by decide +kernel) (by decide +kernel))
theorem g_L_54 : CVt RL 54 yX11_play cX11_play 5 (some .boolean) 3 11 := CVt.of (T := TX11) (N := 9) 999 1000 (by decide +kernel) (by decide +kernel) (by decide) rfl (CB.of 998 1 1001 (by decide +kernel) (by decide +kernel) (by decide +kernel) (by decide +kernel))
theorem g_L_59 : CVt RL 59 yX11_of cX11_of 4 (some .int) 2 11 := CVt.of (T := TX11) (N := 9) 1003 1004 (by decide +kernel) (by decide +kernel) (by decide) rfl (CB.of 1002 1 1005 (by decide +kernel) (by decide +kernel) (by decide +kernel) (by decide +kernel))
theorem g_L_64 : CVt RL 64 yX11_level cX11_level 3 (some .int) 2 11 := CVt.of (T := TX11) (N := 9) 1015 1016 (by decide +kernel) (by decide +kernel) (by decide) rfl (CB.of 1014 1 1017 (by decide +kernel) (by decide +kernel) (by decide +kernel) (by decide +kernel))
theorem g_L_68 : CVt RL 68 yX11_out cX11_out 2 (some .int) 1 11 := CVt.of (T := TX11) (N := 9) 1020 1021 (by decide +kernel) (by decide +kernel) (by decide) rfl (CB.of 1019 1 1022 (by decide +kernel) (by decide +kernel) (by decide +kernel) (by decide +kernel))
theorem g_L_72 : CVt RL 72 yX11_patch cX11_patch 4 (some .boolean) 3 11 := CVt.of (T := TX11) (N := 9) 1032 1033 (by decide +kernel) (by decide +kernel) (by decide) rfl (CB.of 1031 1 1034 (by decide +kernel) (by decide +kernel) (by decide +kernel) (by decide +kernel))
theorem g_L_76 : CVt RL 76 yX11_grand cX11_grand 2 (some .boolean) 1 11 := CVt.of (T := TX11) (N := 9) 1036 1037 (by decide +kernel) (by decide +kernel) (by decide) rfl (CB.of 1035 1 1038 (by decide +kernel) (by decide +kernel) (by decide +kernel) (by decide +kernel))
theorem g_L_80 : CVt RL 80 yX11_wire cX11_wire 2 (some .int) 1 11 := CVt.of (T := TX11) (N := 9) 1040 1041 (by decide +kernel) (by decide +kernel) (by decide) rfl (CB.of 1039 1 1042 (by decide +kernel) (by decide +kernel) (by decide +kernel) (by decide +kernel))
theorem g_L_84 : CVt RL 84 yX11_axis cX11_axis 7 (some .boolean) 5 11 := CVt.of (T := TX11) (N := 9) 1049 1050 (by decide +kernel) (by decide +kernel) (by decide) rfl (CB.of 1048 1 1051 (by decide +kernel) (by decide +kernel) (by decide +kernel) (by decide +kernel))
theorem g_L_89 : CVt RL 89 yX11_to cX11_to 3 (some .boolean) 2 11 := CVt.of (T := TX11) (N := 9) 1058 1059 (by decide +kernel) (by decide +kernel) (by decide) rfl (CB.of 1057 1 1060 (by decide +kernel) (by decide +kernel) (by decide +kernel) (by decide +kernel))
theorem g_L_94 : CVt RL 94 yX11_axisAt cX11_axisAt 3 (some .int) 2 11 := CVt.of (T := TX11) (N := 9) 1063 1064 (by decide +kernel) (by decide +kernel) (by decide) rfl (CB.of 1062 1 1065 (by decide +kernel) (by decide +kernel) (by decide +kernel) (by decide +kernel))
theorem g_L_98 : CVt RL 98 yX11_faults cX11_faults 3 (some .boolean) 2 11 := CVt.of (T := TX11) (N := 9) 1072 1073 (by decide +kernel) (by decide +kernel) (by decide) rfl (CB.of 1071 1 1074 (by decide +kernel) (by decide +kernel) (by decide +kernel) (by decide +kernel))
theorem g_L_102 : CVt RL 102 yX11_stop cX11_stop 2 none 1 11 := CVt.of (T := TX11) (N := 9) 1080 1081 (by decide +kernel) (by decide +kernel) (by decide) rfl (CB.of 1079 1 1082 (by decide +kernel) (by decide +kernel) (by decide +kernel) (by decide +kernel))
theorem g_L_107 : CVt RL 107 yX11_event cX11_event 3 (some .boolean) 2 11 := CVt.of (T := TX11) (N := 9) 1088 1089 (by decide +kernel) (by decide +kernel) (by decide) rfl (CB.of 1087 1 1090 (by decide +kernel) (by decide +kernel) (by decide +kernel) (by decide +kernel))
theorem g_L_112 : CVt RL 112 yX11_tick cX11_tick 4 (some .int) 1 11 := CVt.of (T := TX11) (N := 9) 1092 1093 (by decide +kernel) (by decide +kernel) (by decide) rfl (CB.of 1091 1 1094 (by decide +kernel) (by decide +kernel) (by decide +kernel) (by decide +kernel))
theorem g_L_116 : CVt RL 116 yX11_section cX11_section 3 (some .boolean) 2 11 := CVt.of (T := TX11) (N := 9) 1139 1140 (by decide +kernel) (by decide +kernel) (by decide) rfl (CB.of 1138 1 1141 (by decide +kernel) (by decide +kernel) (by decide +kernel) (by decide +kernel))
theorem g_L_120 : CVt RL 120 yX11_row cX11_row 4 (some .boolean) 3 11 := CVt.of (T := TX11) (N := 9) 1143 1144 (by decide +kernel) (by decide +kernel) (by decide) rfl (CB.of 1142 1 1145 (by decide +kernel) (by decide +kernel) (by decide +kernel) (by decide +kernel))
theorem g_L_124 : CVt RL 124 yX11_line cX11_line 3 (some .boolean) 2 11 := CVt.of (T := TX11) (N := 9) 1151 1152 (by decide +kernel) (by decide +kernel) (by decide) rfl (CB.of 1150 1 1153 (by decide +kernel) (by decide +kernel) (by decide +kernel) (by decide +kernel))
theorem g_L_128 : CVt RL 128 yX11_ask cX11_ask 10 (some .int) 6 11 := CVt.of (T := TX11) (N := 9) 1155 1156 (by decide +kernel) (by decide +kernel) (by decide) rfl (CB.of 1154 1 1157 (by decide +kernel) (by decide +kernel) (by decide +kernel) (by decide +kernel))
theorem g_L_133 : CVt RL 133 yX11_hold cX11_hold 3 (some .int) 2 11 := CVt.of (T := TX11) (N := 9) 1189 1190 (by decide +kernel) (by decide +kernel) (by decide) rfl (CB.of 1188 1 1191 (by decide +kernel) (by decide +kernel) (by decide +kernel) (by decide +kernel))
theorem g_L_137 : CVt RL 137 yX11_pay cX11_pay 3 (some .int) 2 11 := CVt.of (T := TX11) (N := 9) 1214 1215 (by decide +kernel) (by decide +kernel) (by decide) rfl (CB.of 1213 1 1216 (by decide +kernel) (by decide +kernel) (by decide +kernel) (by decide +kernel))
theorem g_L_141 : CVt RL 141 yX11_give cX11_give 2 (some .boolean) 1 11 := CVt.of (T := TX11) (N := 9) 1223 1224 (by decide +kernel) (by decide +kernel) (by decide) rfl (CB.of 1222 1 1225 (by decide +kernel) (by decide +kernel) (by decide +kernel) (by decide +kernel))
theorem g_L_145 : CVt RL 145 yX11_back cX11_back 3 (some .int) 2 11 := CVt.of (T := TX11) (N := 9) 1228 1229 (by decide +kernel) (by decide +kernel) (by decide) rfl (CB.of 1227 1 1230 (by decide +kernel) (by decide +kernel) (by decide +kernel) (by decide +kernel))
theorem g_L_149 : CVt RL 149 yX11_enter cX11_enter 2 (some .int) 1 11 := CVt.of (T := TX11) (N := 9) 1240 1241 (by decide +kernel) (by decide +kernel) (by decide) rfl (CB.of 1239 1 1242 (by decide +kernel) (by decide +kernel) (by decide +kernel) (by decide +kernel))
theorem g_L_153 : CVt RL 153 yX11_seat cX11_seat 3 (some .int) 2 11 := CVt.of (T := TX11) (N := 9) 1248 1249 (by decide +kernel) (by decide +kernel) (by decide) rfl (CB.of 1247 1 1250 (by decide +kernel) (by decide +kernel) (by decide +kernel) (by decide +kernel))
theorem g_L_157 : CVt RL 157 yX11_told cX11_told 2 (some .int) 1 11 := CVt.of (T := TX11) (N := 9) 1252 1253 (by decide +kernel) (by decide +kernel) (by decide) rfl (CB.of 1251 1 1254 (by decide +kernel) (by decide +kernel) (by decide +kernel) (by decide +kernel))
theorem g_L_161 : CVt RL 161 yX11_share cX11_share 3 (some .long) 2 11 := CVt.of (T := TX11) (N := 9) 1260 1261 (by decide +kernel) (by decide +kernel) (by decide) rfl (CB.of 1259 1 1262 (by decide +kernel) (by decide +kernel) (by decide +kernel) (by decide +kernel))
theorem g_L_166 : CVt RL 166 yX11_way cX11_way 6 (some .int) 4 11 := CVt.of (T := TX11) (N := 9) 1287 1288 (by decide +kernel) (by decide +kernel) (by decide) rfl (CB.of 1286 1 1289 (by decide +kernel) (by decide +kernel) (by decide +kernel) (by decide +kernel))
theorem g_L_170 : CVt RL 170 yX11_crowd cX11_crowd 3 (some .boolean) 2 11 := CVt.of (T := TX11) (N := 9) 1299 1300 (by decide +kernel) (by decide +kernel) (by decide) rfl (CB.of 1298 1 1301 (by decide +kernel) (by decide +kernel) (by decide +kernel) (by decide +kernel))
theorem g_L_174 : CVt RL 174 yX11_clearWays cX11_clearWays 1 none 0 11 := CVt.of (T := TX11) (N := 9) 1303 1304 (by decide +kernel) (by decide +kernel) (by decide) rfl (CB.of 1302 1 1305 (by decide +kernel) (by decide +kernel) (by decide +kernel) (by decide +kernel))
theorem g_L_178 : CVt RL 178 yX11_empty cX11_empty 1 (some .int) 0 11 := CVt.of (T := TX11) (N := 9) 1312 1313 (by decide +kernel) (by decide +kernel) (by decide) rfl (CB.of 1311 1 1314 (by decide +kernel) (by decide +kernel) (by decide +kernel) (by decide +kernel))
theorem g_L_17 : CVt RL 17 yX12_feed cX12_feed 6 (some .int) 5 12 := CVt.of (T := TX12) (N := 127) 1754 1755 (by decide +kernel) (by decide +kernel) (by decide) rfl (CB.of 1753 14 1756 (by decide +kernel) (by decide +kernel) (by decide +kernel) (by decide +kernel))
theorem g_L_22 : CVt RL 22 yX12_cut cX12_cut 3 (some .int) 1 12 := CVt.of (T := TX12) (N := 127) 1762 1763 (by decide +kernel) (by decide +kernel) (by decide) rfl (CB.of 1761 14 1764 (by decide +kernel) (by decide +kernel) (by decide +kernel) (by decide +kernel))
theorem g_L_43 : CVt RL 43 yX12_fault cX12_fault 1 (some .int) 0 12 := CVt.of (T := TX12) (N := 127) 1766 1767 (by decide +kernel) (by decide +kernel) (by decide) rfl (CB.of 1765 14 1768 (by decide +kernel) (by decide +kernel) (by decide +kernel) (by decide +kernel))
theorem g_L_26 : CVt RL 26 yX12_list cX12_list 6 (some .int) 1 12 := CVt.of (T := TX12) (N := 127) 1770 1771 (by decide +kernel) (by decide +kernel) (by decide) rfl (CB.of 1769 14 1772 (by decide +kernel) (by decide +kernel) (by decide +kernel) (by decide +kernel))
theorem g_L_48 : CVt RL 48 yX12_tracks cX12_tracks 6 (some .int) 4 12 := CVt.of (T := TX12) (N := 127) 1872 1873 (by decide +kernel) (by decide +kernel) (by decide) rfl (CB.of 1871 14 1874 (by decide +kernel) (by decide +kernel) (by decide +kernel) (by decide +kernel))
theorem g_L_53 : CVt RL 53 yX12_go cX12_go 2 (some .boolean) 1 12 := CVt.of (T := TX12) (N := 127) 1890 1891 (by decide +kernel) (by decide +kernel) (by decide) rfl (CB.of 1889 14 1892 (by decide +kernel) (by decide +kernel) (by decide +kernel) (by decide +kernel))
theorem g_L_58 : CVt RL 58 yX12_play cX12_play 5 (some .boolean) 3 12 := CVt.of (T := TX12) (N := 127) 1936 1937 (by decide +kernel) (by decide +kernel) (by decide) rfl (CB.of 1935 14 1938 (by decide +kernel) (by decide +kernel) (by decide +kernel) (by decide +kernel))
theorem g_L_63 : CVt RL 63 yX12_of cX12_of 5 (some .int) 2 12 := CVt.of (T := TX12) (N := 127) 1940 1941 (by decide +kernel) (by decide +kernel) (by decide) rfl (CB.of 1939 14 1942 (by decide +kernel) (by decide +kernel) (by decide +kernel) (by decide +kernel))
theorem g_L_67 : CVt RL 67 yX12_level cX12_level 3 (some .int) 2 12 := CVt.of (T := TX12) (N := 127) 1948 1949 (by decide +kernel) (by decide +kernel) (by decide) rfl (CB.of 1947 14 1950 (by decide +kernel) (by decide +kernel) (by decide +kernel) (by decide +kernel))
theorem g_L_71 : CVt RL 71 yX12_out cX12_out 7 (some .int) 1 12 := CVt.of (T := TX12) (N := 127) 1952 1953 (by decide +kernel) (by decide +kernel) (by decide) rfl (CB.of 1951 14 1954 (by decide +kernel) (by decide +kernel) (by decide +kernel) (by decide +kernel))
theorem g_L_75 : CVt RL 75 yX12_patch cX12_patch 4 (some .boolean) 3 12 := CVt.of (T := TX12) (N := 127) 1961 1962 (by decide +kernel) (by decide +kernel) (by decide) rfl (CB.of 1960 14 1963 (by decide +kernel) (by decide +kernel) (by decide +kernel) (by decide +kernel))
theorem g_L_79 : CVt RL 79 yX12_grand cX12_grand 2 (some .boolean) 1 12 := CVt.of (T := TX12) (N := 127) 1965 1966 (by decide +kernel) (by decide +kernel) (by decide) rfl (CB.of 1964 14 1967 (by decide +kernel) (by decide +kernel) (by decide +kernel) (by decide +kernel))
theorem g_L_83 : CVt RL 83 yX12_wire cX12_wire 4 (some .int) 1 12 := CVt.of (T := TX12) (N := 127) 1969 1970 (by decide +kernel) (by decide +kernel) (by decide) rfl (CB.of 1968 14 1971 (by decide +kernel) (by decide +kernel) (by decide +kernel) (by decide +kernel))
theorem g_L_30 : CVt RL 30 yX12_lock cX12_lock 4 (some .int) 1 12 := CVt.of (T := TX12) (N := 127) 1975 1976 (by decide +kernel) (by decide +kernel) (by decide) rfl (CB.of 1974 14 1977 (by decide +kernel) (by decide +kernel) (by decide +kernel) (by decide +kernel))
theorem g_L_88 : CVt RL 88 yX12_axis cX12_axis 6 (some .boolean) 5 12 := CVt.of (T := TX12) (N := 127) 1991 1992 (by decide +kernel) (by decide +kernel) (by decide) rfl (CB.of 1990 14 1993 (by decide +kernel) (by decide +kernel) (by decide +kernel) (by decide +kernel))
theorem g_L_93 : CVt RL 93 yX12_to cX12_to 3 (some .boolean) 2 12 := CVt.of (T := TX12) (N := 127) 1998 1999 (by decide +kernel) (by decide +kernel) (by decide) rfl (CB.of 1997 14 2000 (by decide +kernel) (by decide +kernel) (by decide +kernel) (by decide +kernel))
theorem g_L_97 : CVt RL 97 yX12_axisAt cX12_axisAt 3 (some .int) 2 12 := CVt.of (T := TX12) (N := 127) 2002 2003 (by decide +kernel) (by decide +kernel) (by decide) rfl (CB.of 2001 14 2004 (by decide +kernel) (by decide +kernel) (by decide +kernel) (by decide +kernel))
theorem g_L_101 : CVt RL 101 yX12_faults cX12_faults 3 (some .boolean) 2 12 := CVt.of (T := TX12) (N := 127) 2006 2007 (by decide +kernel) (by decide +kernel) (by decide) rfl (CB.of 2005 14 2008 (by decide +kernel) (by decide +kernel) (by decide +kernel) (by decide +kernel))
theorem g_L_106 : CVt RL 106 yX12_stop cX12_stop 3 none 1 12 := CVt.of (T := TX12) (N := 127) 2010 2011 (by decide +kernel) (by decide +kernel) (by decide) rfl (CB.of 2009 14 2012 (by decide +kernel) (by decide +kernel) (by decide +kernel) (by decide +kernel))
theorem g_L_111 : CVt RL 111 yX12_event cX12_event 3 (some .boolean) 2 12 := CVt.of (T := TX12) (N := 127) 2014 2015 (by decide +kernel) (by decide +kernel) (by decide) rfl (CB.of 2013 14 2016 (by decide +kernel) (by decide +kernel) (by decide +kernel) (by decide +kernel))
theorem g_L_115 : CVt RL 115 yX12_tick cX12_tick 3 (some .int) 1 12 := CVt.of (T := TX12) (N := 127) 2018 2019 (by decide +kernel) (by decide +kernel) (by decide) rfl (CB.of 2017 14 2020 (by decide +kernel) (by decide +kernel) (by decide +kernel) (by decide +kernel))
theorem g_L_35 : CVt RL 35 yX12_rules cX12_rules 7 (some .int) 0 12 := CVt.of (T := TX12) (N := 127) 2041 2042 (by decide +kernel) (by decide +kernel) (by decide) rfl (CB.of 2040 14 2043 (by decide +kernel) (by decide +kernel) (by decide +kernel) (by decide +kernel))
theorem g_L_119 : CVt RL 119 yX12_section cX12_section 3 (some .boolean) 2 12 := CVt.of (T := TX12) (N := 127) 2049 2050 (by decide +kernel) (by decide +kernel) (by decide) rfl (CB.of 2048 14 2051 (by decide +kernel) (by decide +kernel) (by decide +kernel) (by decide +kernel))
theorem g_L_123 : CVt RL 123 yX12_row cX12_row 5 (some .boolean) 3 12 := CVt.of (T := TX12) (N := 127) 2053 2054 (by decide +kernel) (by decide +kernel) (by decide) rfl (CB.of 2052 14 2055 (by decide +kernel) (by decide +kernel) (by decide +kernel) (by decide +kernel))
theorem g_L_127 : CVt RL 127 yX12_line cX12_line 3 (some .boolean) 2 12 := CVt.of (T := TX12) (N := 127) 2057 2058 (by decide +kernel) (by decide +kernel) (by decide) rfl (CB.of 2056 14 2059 (by decide +kernel) (by decide +kernel) (by decide +kernel) (by decide +kernel))
theorem g_L_132 : CVt RL 132 yX12_ask cX12_ask 18 (some .int) 6 12 := CVt.of (T := TX12) (N := 127) 2061 2062 (by decide +kernel) (by decide +kernel) (by decide) rfl (CB.of 2060 14 2063 (by decide +kernel) (by decide +kernel) (by decide +kernel) (by decide +kernel))
theorem g_L_136 : CVt RL 136 yX12_hold cX12_hold 3 (some .int) 2 12 := CVt.of (T := TX12) (N := 127) 2073 2074 (by decide +kernel) (by decide +kernel) (by decide) rfl (CB.of 2072 14 2075 (by decide +kernel) (by decide +kernel) (by decide +kernel) (by decide +kernel))
theorem g_L_140 : CVt RL 140 yX12_pay cX12_pay 4 (some .int) 2 12 := CVt.of (T := TX12) (N := 127) 2094 2095 (by decide +kernel) (by decide +kernel) (by decide) rfl (CB.of 2093 14 2096 (by decide +kernel) (by decide +kernel) (by decide +kernel) (by decide +kernel))
theorem g_L_144 : CVt RL 144 yX12_give cX12_give 2 (some .boolean) 1 12 := CVt.of (T := TX12) (N := 127) 2098 2099 (by decide +kernel) (by decide +kernel) (by decide) rfl (CB.of 2097 14 2100 (by decide +kernel) (by decide +kernel) (by decide +kernel) (by decide +kernel))
theorem g_L_148 : CVt RL 148 yX12_back cX12_back 3 (some .int) 2 12 := CVt.of (T := TX12) (N := 127) 2102 2103 (by decide +kernel) (by decide +kernel) (by decide) rfl (CB.of 2101 14 2104 (by decide +kernel) (by decide +kernel) (by decide +kernel) (by decide +kernel))
theorem g_L_152 : CVt RL 152 yX12_enter cX12_enter 2 (some .int) 1 12 := CVt.of (T := TX12) (N := 127) 2110 2111 (by decide +kernel) (by decide +kernel) (by decide) rfl (CB.of 2109 14 2112 (by decide +kernel) (by decide +kernel) (by decide +kernel) (by decide +kernel))
theorem g_L_156 : CVt RL 156 yX12_seat cX12_seat 3 (some .int) 2 12 := CVt.of (T := TX12) (N := 127) 2114 2115 (by decide +kernel) (by decide +kernel) (by decide) rfl (CB.of 2113 14 2116 (by decide +kernel) (by decide +kernel) (by decide +kernel) (by decide +kernel))
theorem g_L_160 : CVt RL 160 yX12_told cX12_told 5 (some .int) 1 12 := CVt.of (T := TX12) (N := 127) 2118 2119 (by decide +kernel) (by decide +kernel) (by decide) rfl (CB.of 2117 14 2120 (by decide +kernel) (by decide +kernel) (by decide +kernel) (by decide +kernel))
theorem g_L_39 : CVt RL 39 yX12_shares cX12_shares 7 (some .int) 0 12 := CVt.of (T := TX12) (N := 127) 2122 2123 (by decide +kernel) (by decide +kernel) (by decide) rfl (CB.of 2121 14 2124 (by decide +kernel) (by decide +kernel) (by decide +kernel) (by decide +kernel))
theorem g_L_165 : CVt RL 165 yX12_share cX12_share 37 (some .long) 2 12 := CVt.of (T := TX12) (N := 127) 2132 2133 (by decide +kernel) (by decide +kernel) (by decide) rfl (CB.of 2131 14 2134 (by decide +kernel) (by decide +kernel) (by decide +kernel) (by decide +kernel))
theorem g_L_169 : CVt RL 169 yX12_way cX12_way 5 (some .int) 4 12 := CVt.of (T := TX12) (N := 127) 2143 2144 (by decide +kernel) (by decide +kernel) (by decide) rfl (CB.of 2142 14 2145 (by decide +kernel) (by decide +kernel) (by decide +kernel) (by decide +kernel))
theorem g_L_173 : CVt RL 173 yX12_crowd cX12_crowd 3 (some .boolean) 2 12 := CVt.of (T := TX12) (N := 127) 2147 2148 (by decide +kernel) (by decide +kernel) (by decide) rfl (CB.of 2146 14 2149 (by decide +kernel) (by decide +kernel) (by decide +kernel) (by decide +kernel))
theorem g_L_177 : CVt RL 177 yX12_clearWays cX12_clearWays 2 none 0 12 := CVt.of (T := TX12) (N := 127) 2151 2152 (by decide +kernel) (by decide +kernel) (by decide) rfl (CB.of 2150 14 2153 (by decide +kernel) (by decide +kernel) (by decide +kernel) (by decide +kernel))
theorem g_L_181 : CVt RL 181 yX12_empty cX12_empty 4 (some .int) 0 12 := CVt.of (T := TX12) (N := 127) 2155 2156 (by decide +kernel) (by decide +kernel) (by decide) rfl (CB.of 2154 14 2157 (by decide +kernel) (by decide +kernel) (by decide +kernel) (by decide +kernel))
def b_L_law_1488 (fu : Nat) (xs : Nat → Int32) (L : Nat) (k_18 : Nat → Nat → Nat → Int32 → St → Option (Int32)) (x0 : Nat) (x1 : Nat) (x2 : Nat) (x3 : Int32)  (st : St) : Option (Int32) :=
  bd (x3 + 7) fun v6 =>
  k_18 x0 x1 x2 v6  st
set_option maxHeartbeats 4000000 in
set_option maxRecDepth 100000 in
theorem t_L_law_1488 {X : CX} {sb : Nat} (fu : Nat) (xs : Nat → Int32) (L : Nat) (B : BQ X sb L xs) (k_18 : Nat → Nat → Nat → Int32 → St → Option (Int32)) (h_18 : ∀ (x0 : Nat) (x1 : Nat) (x2 : Nat) (x3 : Int32)  (st : St), WW X (1 : Int32) NN 18 [(0, .ref sb), (1, .ref (x_b X + x1)), (2, .ref (x_b X + x2)), (3, .int x3)] [] st (k_18 x0 x1 x2 x3 st)) (x0 : Nat) (x1 : Nat) (x2 : Nat) (x3 : Int32)  (st : St) : WW X (1 : Int32) NN 1488 [(0, .ref sb), (1, .ref (x_b X + x1)), (2, .ref (x_b X + x2)), (3, .int x3)] [] st (b_L_law_1488 fu xs L k_18 x0 x1 x2 x3 st) := by
  have hX := B.1
  have hL := B.2.1
  unfold b_L_law_1488
  refine ww_iincb (lv' := fun v6 => [(3, .int v6), (0, .ref sb), (1, .ref (x_b X + x1)), (2, .ref (x_b X + x2))]) (c := 7) hX hL 3 rfl dL_law_1488 rfl (by decide) (fun _ => rfl) (fun v6 => ?_)
  refine ww_goto (tgt := 18) hX dL_law_1491 (by decide) ?_
  exact ww_sub [1, 2, 3, 0] rfl (h_18 x0 x1 x2 v6  st)
def b_L_law_865 (fu : Nat) (xs : Nat → Int32) (L : Nat) (k_18 : Nat → Nat → Nat → Int32 → St → Option (Int32)) (x0 : Nat) (x1 : Nat) (x2 : Nat) (x3 : Int32) (y0 : Nat) (y1 : Int32) (st : St) : Option (Int32) :=
  ck ((kd y0).1 = 12) <|
  cv (f_X12_stop fu y0 y1 st) fun s84 =>
  b_L_law_1488 fu xs L k_18 x0 x1 x2 x3  s84
set_option maxHeartbeats 4000000 in
set_option maxRecDepth 100000 in
theorem t_L_law_865 {X : CX} {sb : Nat} (fu : Nat) (xs : Nat → Int32) (L : Nat) (B : BQ X sb L xs) (k_18 : Nat → Nat → Nat → Int32 → St → Option (Int32)) (h_18 : ∀ (x0 : Nat) (x1 : Nat) (x2 : Nat) (x3 : Int32)  (st : St), WW X (1 : Int32) NN 18 [(0, .ref sb), (1, .ref (x_b X + x1)), (2, .ref (x_b X + x2)), (3, .int x3)] [] st (k_18 x0 x1 x2 x3 st)) (x0 : Nat) (x1 : Nat) (x2 : Nat) (x3 : Int32) (y0 : Nat) (y1 : Int32) (st : St) : WW X (1 : Int32) NN 865 [(0, .ref sb), (1, .ref (x_b X + x1)), (2, .ref (x_b X + x2)), (3, .int x3)] [.int y1, .ref (x_b X + y0)] st (b_L_law_865 fu xs L k_18 x0 x1 x2 x3 y0 y1 st) := by
  have hX := B.1
  have hL := B.2.1
  unfold b_L_law_865
  refine ww_callVV (As := [.int y1]) (rest := []) (o := y0) hX (B.rk (by decide) (by decide)) g_L_106 g_L_106.in (fun _ => c_X12_stop (x_G X) (x_l X) fu y0 y1 st) rfl rfl (Nat.le_of_ble_eq_true rfl) dL_law_865 (fun s84 => ?_)
  refine ww_goto (tgt := 1488) hX dL_law_868 (by decide) ?_
  exact t_L_law_1488 fu xs L B k_18 h_18 x0 x1 x2 x3  s84
def b_L_law_848 (fu : Nat) (xs : Nat → Int32) (L : Nat) (k_18 : Nat → Nat → Nat → Int32 → St → Option (Int32)) (x0 : Nat) (x1 : Nat) (x2 : Nat) (x3 : Int32) (y0 : Nat) (y1 : Int32) (st : St) : Option (Int32) :=
  ck ((kd y0).1 = 11) <|
  cv (f_X11_stop fu y0 y1 st) fun s83 =>
  ck (inb (x3 + 1) L) <|
  if (xs (ix (x3 + 1))) = 0 then (
  b_L_law_865 fu xs L k_18 x0 x1 x2 x3 x2 0 s83)
  else (
  b_L_law_865 fu xs L k_18 x0 x1 x2 x3 x2 1 s83)
set_option maxHeartbeats 4000000 in
set_option maxRecDepth 100000 in
theorem t_L_law_848 {X : CX} {sb : Nat} (fu : Nat) (xs : Nat → Int32) (L : Nat) (B : BQ X sb L xs) (k_18 : Nat → Nat → Nat → Int32 → St → Option (Int32)) (h_18 : ∀ (x0 : Nat) (x1 : Nat) (x2 : Nat) (x3 : Int32)  (st : St), WW X (1 : Int32) NN 18 [(0, .ref sb), (1, .ref (x_b X + x1)), (2, .ref (x_b X + x2)), (3, .int x3)] [] st (k_18 x0 x1 x2 x3 st)) (x0 : Nat) (x1 : Nat) (x2 : Nat) (x3 : Int32) (y0 : Nat) (y1 : Int32) (st : St) : WW X (1 : Int32) NN 848 [(0, .ref sb), (1, .ref (x_b X + x1)), (2, .ref (x_b X + x2)), (3, .int x3)] [.int y1, .ref (x_b X + y0)] st (b_L_law_848 fu xs L k_18 x0 x1 x2 x3 y0 y1 st) := by
  have hX := B.1
  have hL := B.2.1
  unfold b_L_law_848
  refine ww_callVV (As := [.int y1]) (rest := []) (o := y0) hX (B.rk (by decide) (by decide)) g_L_102 g_L_102.in (fun _ => c_X11_stop (x_G X) (x_l X) fu y0 y1 st) rfl rfl (Nat.le_of_ble_eq_true rfl) dL_law_848 (fun s83 => ?_)
  refine ww_aload_n hX 2 rfl dL_law_851 rfl ?_
  refine ww_aload_n hX 0 rfl dL_law_852 rfl ?_
  refine ww_iload_n hX 3 rfl dL_law_853 rfl ?_
  refine ww_iconst (v := 1) hX rfl dL_law_854 ?_
  refine ww_iadd hX dL_law_855 ?_
  refine ww_sld B dL_law_856 ?_
  refine ww_pc (b := 857) rfl ?_
  refine ww_if_eq (tgt := 864) hX dL_law_857 (by decide) ?_ ?_
  · refine ww_iconst (v := 0) hX rfl dL_law_864 ?_
    exact t_L_law_865 fu xs L B k_18 h_18 x0 x1 x2 x3 x2 0 s83
  · refine ww_iconst (v := 1) hX rfl dL_law_860 ?_
    refine ww_goto (tgt := 865) hX dL_law_861 (by decide) ?_
    exact t_L_law_865 fu xs L B k_18 h_18 x0 x1 x2 x3 x2 1 s83
def b_L_law_912 (fu : Nat) (xs : Nat → Int32) (L : Nat) (k_18 : Nat → Nat → Nat → Int32 → St → Option (Int32)) (x0 : Nat) (x1 : Nat) (x2 : Nat) (x3 : Int32) (y0 : Int32) (y1 : Nat) (y2 : Int32) (y3 : Int32) (st : St) : Option (Int32) :=
  ck ((kd y1).1 = 12) <|
  ca (f_X12_event fu y1 y2 y3 st) fun r87 s88 =>
  if y0 = r87 then (
  b_L_law_1488 fu xs L k_18 x0 x1 x2 x3  s88)
  else (
  some 0)
set_option maxHeartbeats 4000000 in
set_option maxRecDepth 100000 in
theorem t_L_law_912 {X : CX} {sb : Nat} (fu : Nat) (xs : Nat → Int32) (L : Nat) (B : BQ X sb L xs) (k_18 : Nat → Nat → Nat → Int32 → St → Option (Int32)) (h_18 : ∀ (x0 : Nat) (x1 : Nat) (x2 : Nat) (x3 : Int32)  (st : St), WW X (1 : Int32) NN 18 [(0, .ref sb), (1, .ref (x_b X + x1)), (2, .ref (x_b X + x2)), (3, .int x3)] [] st (k_18 x0 x1 x2 x3 st)) (x0 : Nat) (x1 : Nat) (x2 : Nat) (x3 : Int32) (y0 : Int32) (y1 : Nat) (y2 : Int32) (y3 : Int32) (st : St) : WW X (1 : Int32) NN 912 [(0, .ref sb), (1, .ref (x_b X + x1)), (2, .ref (x_b X + x2)), (3, .int x3)] [.int y3, .int y2, .ref (x_b X + y1), .int y0] st (b_L_law_912 fu xs L k_18 x0 x1 x2 x3 y0 y1 y2 y3 st) := by
  have hX := B.1
  have hL := B.2.1
  unfold b_L_law_912
  refine ww_callVI (As := [.int y2, .int y3]) (rest := [.int y0]) (o := y1) hX (B.rk (by decide) (by decide)) g_L_111 g_L_111.in (fun _ => c_X12_event (x_G X) (x_l X) fu y1 y2 y3 st) rfl rfl (Nat.le_of_ble_eq_true rfl) dL_law_912 (fun r87 s88 => ?_)
  refine ww_icmp_eq (tgt := 1488) hX dL_law_915 (by decide) ?_ ?_
  · exact t_L_law_1488 fu xs L B k_18 h_18 x0 x1 x2 x3  s88
  · refine ww_iconst (v := 0) hX rfl dL_law_918 ?_
    exact ww_lawret B dL_law_919
def b_L_law_890 (fu : Nat) (xs : Nat → Int32) (L : Nat) (k_18 : Nat → Nat → Nat → Int32 → St → Option (Int32)) (x0 : Nat) (x1 : Nat) (x2 : Nat) (x3 : Int32) (y0 : Nat) (y1 : Int32) (y2 : Int32) (st : St) : Option (Int32) :=
  ck ((kd y0).1 = 11) <|
  ca (f_X11_event fu y0 y1 y2 st) fun r85 s86 =>
  ck (inb (x3 + 1) L) <|
  ck (inb (x3 + 2) L) <|
  if (xs (ix (x3 + 2))) = 0 then (
  b_L_law_912 fu xs L k_18 x0 x1 x2 x3 r85 x2 (xs (ix (x3 + 1))) 0 s86)
  else (
  b_L_law_912 fu xs L k_18 x0 x1 x2 x3 r85 x2 (xs (ix (x3 + 1))) 1 s86)
set_option maxHeartbeats 4000000 in
set_option maxRecDepth 100000 in
theorem t_L_law_890 {X : CX} {sb : Nat} (fu : Nat) (xs : Nat → Int32) (L : Nat) (B : BQ X sb L xs) (k_18 : Nat → Nat → Nat → Int32 → St → Option (Int32)) (h_18 : ∀ (x0 : Nat) (x1 : Nat) (x2 : Nat) (x3 : Int32)  (st : St), WW X (1 : Int32) NN 18 [(0, .ref sb), (1, .ref (x_b X + x1)), (2, .ref (x_b X + x2)), (3, .int x3)] [] st (k_18 x0 x1 x2 x3 st)) (x0 : Nat) (x1 : Nat) (x2 : Nat) (x3 : Int32) (y0 : Nat) (y1 : Int32) (y2 : Int32) (st : St) : WW X (1 : Int32) NN 890 [(0, .ref sb), (1, .ref (x_b X + x1)), (2, .ref (x_b X + x2)), (3, .int x3)] [.int y2, .int y1, .ref (x_b X + y0)] st (b_L_law_890 fu xs L k_18 x0 x1 x2 x3 y0 y1 y2 st) := by
  have hX := B.1
  have hL := B.2.1
  unfold b_L_law_890
  refine ww_callVI (As := [.int y1, .int y2]) (rest := []) (o := y0) hX (B.rk (by decide) (by decide)) g_L_107 g_L_107.in (fun _ => c_X11_event (x_G X) (x_l X) fu y0 y1 y2 st) rfl rfl (Nat.le_of_ble_eq_true rfl) dL_law_890 (fun r85 s86 => ?_)
  refine ww_aload_n hX 2 rfl dL_law_893 rfl ?_
  refine ww_aload_n hX 0 rfl dL_law_894 rfl ?_
  refine ww_iload_n hX 3 rfl dL_law_895 rfl ?_
  refine ww_iconst (v := 1) hX rfl dL_law_896 ?_
  refine ww_iadd hX dL_law_897 ?_
  refine ww_sld B dL_law_898 ?_
  refine ww_pc (b := 899) rfl ?_
  refine ww_aload_n hX 0 rfl dL_law_899 rfl ?_
  refine ww_iload_n hX 3 rfl dL_law_900 rfl ?_
  refine ww_iconst (v := 2) hX rfl dL_law_901 ?_
  refine ww_iadd hX dL_law_902 ?_
  refine ww_sld B dL_law_903 ?_
  refine ww_if_eq (tgt := 911) hX dL_law_904 (by decide) ?_ ?_
  · refine ww_iconst (v := 0) hX rfl dL_law_911 ?_
    exact t_L_law_912 fu xs L B k_18 h_18 x0 x1 x2 x3 r85 x2 (xs (ix (x3 + 1))) 0 s86
  · refine ww_iconst (v := 1) hX rfl dL_law_907 ?_
    refine ww_goto (tgt := 912) hX dL_law_908 (by decide) ?_
    exact t_L_law_912 fu xs L B k_18 h_18 x0 x1 x2 x3 r85 x2 (xs (ix (x3 + 1))) 1 s86
def b_L_law_1060 (fu : Nat) (xs : Nat → Int32) (L : Nat) (k_18 : Nat → Nat → Nat → Int32 → St → Option (Int32)) (x0 : Nat) (x1 : Nat) (x2 : Nat) (x3 : Int32) (y0 : Int32) (y1 : Nat) (y2 : Int32) (y3 : Int32) (st : St) : Option (Int32) :=
  ck ((kd y1).1 = 12) <|
  ca (f_X12_line fu y1 y2 y3 st) fun r103 s104 =>
  if y0 = r103 then (
  b_L_law_1488 fu xs L k_18 x0 x1 x2 x3  s104)
  else (
  some 0)
set_option maxHeartbeats 4000000 in
set_option maxRecDepth 100000 in
theorem t_L_law_1060 {X : CX} {sb : Nat} (fu : Nat) (xs : Nat → Int32) (L : Nat) (B : BQ X sb L xs) (k_18 : Nat → Nat → Nat → Int32 → St → Option (Int32)) (h_18 : ∀ (x0 : Nat) (x1 : Nat) (x2 : Nat) (x3 : Int32)  (st : St), WW X (1 : Int32) NN 18 [(0, .ref sb), (1, .ref (x_b X + x1)), (2, .ref (x_b X + x2)), (3, .int x3)] [] st (k_18 x0 x1 x2 x3 st)) (x0 : Nat) (x1 : Nat) (x2 : Nat) (x3 : Int32) (y0 : Int32) (y1 : Nat) (y2 : Int32) (y3 : Int32) (st : St) : WW X (1 : Int32) NN 1060 [(0, .ref sb), (1, .ref (x_b X + x1)), (2, .ref (x_b X + x2)), (3, .int x3)] [.int y3, .int y2, .ref (x_b X + y1), .int y0] st (b_L_law_1060 fu xs L k_18 x0 x1 x2 x3 y0 y1 y2 y3 st) := by
  have hX := B.1
  have hL := B.2.1
  unfold b_L_law_1060
  refine ww_callVI (As := [.int y2, .int y3]) (rest := [.int y0]) (o := y1) hX (B.rk (by decide) (by decide)) g_L_127 g_L_127.in (fun _ => c_X12_line (x_G X) (x_l X) fu y1 y2 y3 st) rfl rfl (Nat.le_of_ble_eq_true rfl) dL_law_1060 (fun r103 s104 => ?_)
  refine ww_icmp_eq (tgt := 1488) hX dL_law_1063 (by decide) ?_ ?_
  · exact t_L_law_1488 fu xs L B k_18 h_18 x0 x1 x2 x3  s104
  · refine ww_iconst (v := 0) hX rfl dL_law_1066 ?_
    exact ww_lawret B dL_law_1067
def b_L_law_1038 (fu : Nat) (xs : Nat → Int32) (L : Nat) (k_18 : Nat → Nat → Nat → Int32 → St → Option (Int32)) (x0 : Nat) (x1 : Nat) (x2 : Nat) (x3 : Int32) (y0 : Nat) (y1 : Int32) (y2 : Int32) (st : St) : Option (Int32) :=
  ck ((kd y0).1 = 11) <|
  ca (f_X11_line fu y0 y1 y2 st) fun r101 s102 =>
  ck (inb (x3 + 1) L) <|
  ck (inb (x3 + 2) L) <|
  if (xs (ix (x3 + 2))) = 0 then (
  b_L_law_1060 fu xs L k_18 x0 x1 x2 x3 r101 x2 (xs (ix (x3 + 1))) 0 s102)
  else (
  b_L_law_1060 fu xs L k_18 x0 x1 x2 x3 r101 x2 (xs (ix (x3 + 1))) 1 s102)
set_option maxHeartbeats 4000000 in
set_option maxRecDepth 100000 in
theorem t_L_law_1038 {X : CX} {sb : Nat} (fu : Nat) (xs : Nat → Int32) (L : Nat) (B : BQ X sb L xs) (k_18 : Nat → Nat → Nat → Int32 → St → Option (Int32)) (h_18 : ∀ (x0 : Nat) (x1 : Nat) (x2 : Nat) (x3 : Int32)  (st : St), WW X (1 : Int32) NN 18 [(0, .ref sb), (1, .ref (x_b X + x1)), (2, .ref (x_b X + x2)), (3, .int x3)] [] st (k_18 x0 x1 x2 x3 st)) (x0 : Nat) (x1 : Nat) (x2 : Nat) (x3 : Int32) (y0 : Nat) (y1 : Int32) (y2 : Int32) (st : St) : WW X (1 : Int32) NN 1038 [(0, .ref sb), (1, .ref (x_b X + x1)), (2, .ref (x_b X + x2)), (3, .int x3)] [.int y2, .int y1, .ref (x_b X + y0)] st (b_L_law_1038 fu xs L k_18 x0 x1 x2 x3 y0 y1 y2 st) := by
  have hX := B.1
  have hL := B.2.1
  unfold b_L_law_1038
  refine ww_callVI (As := [.int y1, .int y2]) (rest := []) (o := y0) hX (B.rk (by decide) (by decide)) g_L_124 g_L_124.in (fun _ => c_X11_line (x_G X) (x_l X) fu y0 y1 y2 st) rfl rfl (Nat.le_of_ble_eq_true rfl) dL_law_1038 (fun r101 s102 => ?_)
  refine ww_aload_n hX 2 rfl dL_law_1041 rfl ?_
  refine ww_aload_n hX 0 rfl dL_law_1042 rfl ?_
  refine ww_iload_n hX 3 rfl dL_law_1043 rfl ?_
  refine ww_iconst (v := 1) hX rfl dL_law_1044 ?_
  refine ww_iadd hX dL_law_1045 ?_
  refine ww_sld B dL_law_1046 ?_
  refine ww_pc (b := 1047) rfl ?_
  refine ww_aload_n hX 0 rfl dL_law_1047 rfl ?_
  refine ww_iload_n hX 3 rfl dL_law_1048 rfl ?_
  refine ww_iconst (v := 2) hX rfl dL_law_1049 ?_
  refine ww_iadd hX dL_law_1050 ?_
  refine ww_sld B dL_law_1051 ?_
  refine ww_if_eq (tgt := 1059) hX dL_law_1052 (by decide) ?_ ?_
  · refine ww_iconst (v := 0) hX rfl dL_law_1059 ?_
    exact t_L_law_1060 fu xs L B k_18 h_18 x0 x1 x2 x3 r101 x2 (xs (ix (x3 + 1))) 0 s102
  · refine ww_iconst (v := 1) hX rfl dL_law_1055 ?_
    refine ww_goto (tgt := 1060) hX dL_law_1056 (by decide) ?_
    exact t_L_law_1060 fu xs L B k_18 h_18 x0 x1 x2 x3 r101 x2 (xs (ix (x3 + 1))) 1 s102
def b_L_law_18_b (fu : Nat) (xs : Nat → Int32) (L : Nat) (k_18 : Nat → Nat → Nat → Int32 → St → Option (Int32)) (x0 : Nat) (x1 : Nat) (x2 : Nat) (x3 : Int32)  (st : St) : Option (Int32) :=
  if ((Int32.ofNat L) - 7) < x3 then (
  some 1)
  else (
  ck (inb x3 L) <|
  bd ((xs (ix x3)) &&& 63) fun v1 =>
  if v1 = 0 then (
  ck (inb (x3 + 1) L) <|
  ck (inb (x3 + 2) L) <|
  ck (inb (x3 + 3) L) <|
  ck (inb (x3 + 4) L) <|
  ck (inb (x3 + 5) L) <|
  ck ((kd x1).1 = 11) <|
  ca (f_X11_feed fu x1 (xs (ix (x3 + 1))) (xs (ix (x3 + 2))) (xs (ix (x3 + 3))) (xs (ix (x3 + 4))) (xs (ix (x3 + 5))) st) fun r2 s3 =>
  ck (inb (x3 + 1) L) <|
  ck (inb (x3 + 2) L) <|
  ck (inb (x3 + 3) L) <|
  ck (inb (x3 + 4) L) <|
  ck (inb (x3 + 5) L) <|
  ck ((kd x2).1 = 12) <|
  ca (f_X12_feed fu x2 (xs (ix (x3 + 1))) (xs (ix (x3 + 2))) (xs (ix (x3 + 3))) (xs (ix (x3 + 4))) (xs (ix (x3 + 5))) s3) fun r4 s5 =>
  if r2 = r4 then (
  b_L_law_1488 fu xs L k_18 x0 x1 x2 x3  s5)
  else (
  some 0))
  else if v1 = 1 then (
  ck (inb (x3 + 1) L) <|
  ck ((kd x1).1 = 11) <|
  ca (f_X11_cut fu x1 (xs (ix (x3 + 1))) st) fun r7 s8 =>
  ck (inb (x3 + 1) L) <|
  ck ((kd x2).1 = 12) <|
  ca (f_X12_cut fu x2 (xs (ix (x3 + 1))) s8) fun r9 s10 =>
  if r7 = r9 then (
  b_L_law_1488 fu xs L k_18 x0 x1 x2 x3  s10)
  else (
  some 0))
  else if v1 = 2 then (
  ck (inb (x3 + 1) L) <|
  ck ((kd x1).1 = 11) <|
  ca (f_X11_list fu x1 (xs (ix (x3 + 1))) st) fun r11 s12 =>
  ck (inb (x3 + 1) L) <|
  ck ((kd x2).1 = 12) <|
  ca (f_X12_list fu x2 (xs (ix (x3 + 1))) s12) fun r13 s14 =>
  if r11 = r13 then (
  b_L_law_1488 fu xs L k_18 x0 x1 x2 x3  s14)
  else (
  some 0))
  else if v1 = 3 then (
  ck (inb (x3 + 1) L) <|
  ck ((kd x1).1 = 11) <|
  ca (f_X11_lock fu x1 (xs (ix (x3 + 1))) st) fun r15 s16 =>
  ck (inb (x3 + 1) L) <|
  ck ((kd x2).1 = 12) <|
  ca (f_X12_lock fu x2 (xs (ix (x3 + 1))) s16) fun r17 s18 =>
  if r15 = r17 then (
  b_L_law_1488 fu xs L k_18 x0 x1 x2 x3  s18)
  else (
  some 0))
  else if v1 = 4 then (
  ck ((kd x1).1 = 11) <|
  ca (f_X11_rules fu x1 st) fun r19 s20 =>
  ck ((kd x2).1 = 12) <|
  ca (f_X12_rules fu x2 s20) fun r21 s22 =>
  if r19 = r21 then (
  b_L_law_1488 fu xs L k_18 x0 x1 x2 x3  s22)
  else (
  some 0))
  else if v1 = 5 then (
  ck ((kd x1).1 = 11) <|
  ca (f_X11_shares fu x1 st) fun r23 s24 =>
  ck ((kd x2).1 = 12) <|
  ca (f_X12_shares fu x2 s24) fun r25 s26 =>
  if r23 = r25 then (
  b_L_law_1488 fu xs L k_18 x0 x1 x2 x3  s26)
  else (
  some 0))
  else if v1 = 6 then (
  ck ((kd x1).1 = 11) <|
  ca (f_X11_fault fu x1 st) fun r27 s28 =>
  ck ((kd x2).1 = 12) <|
  ca (f_X12_fault fu x2 s28) fun r29 s30 =>
  if r27 = r29 then (
  b_L_law_1488 fu xs L k_18 x0 x1 x2 x3  s30)
  else (
  some 0))
  else if v1 = 7 then (
  ck (inb (x3 + 1) L) <|
  ck (inb (x3 + 2) L) <|
  ck (inb (x3 + 3) L) <|
  ck (inb (x3 + 4) L) <|
  ck ((kd x1).1 = 11) <|
  ca (f_X11_tracks fu x1 (xs (ix (x3 + 1))) (xs (ix (x3 + 2))) (xs (ix (x3 + 3))) (xs (ix (x3 + 4))) st) fun r31 s32 =>
  ck (inb (x3 + 1) L) <|
  ck (inb (x3 + 2) L) <|
  ck (inb (x3 + 3) L) <|
  ck (inb (x3 + 4) L) <|
  ck ((kd x2).1 = 12) <|
  ca (f_X12_tracks fu x2 (xs (ix (x3 + 1))) (xs (ix (x3 + 2))) (xs (ix (x3 + 3))) (xs (ix (x3 + 4))) s32) fun r33 s34 =>
  if r31 = r33 then (
  b_L_law_1488 fu xs L k_18 x0 x1 x2 x3  s34)
  else (
  some 0))
  else if v1 = 8 then (
  ck (inb (x3 + 1) L) <|
  ck ((kd x1).1 = 11) <|
  ca (f_X11_go fu x1 (xs (ix (x3 + 1))) st) fun r35 s36 =>
  ck (inb (x3 + 1) L) <|
  ck ((kd x2).1 = 12) <|
  ca (f_X12_go fu x2 (xs (ix (x3 + 1))) s36) fun r37 s38 =>
  if r35 = r37 then (
  b_L_law_1488 fu xs L k_18 x0 x1 x2 x3  s38)
  else (
  some 0))
  else if v1 = 9 then (
  ck (inb (x3 + 1) L) <|
  ck (inb (x3 + 2) L) <|
  ck (inb (x3 + 3) L) <|
  ck ((kd x1).1 = 11) <|
  ca (f_X11_play fu x1 (xs (ix (x3 + 1))) (xs (ix (x3 + 2))) (xs (ix (x3 + 3))) st) fun r39 s40 =>
  ck (inb (x3 + 1) L) <|
  ck (inb (x3 + 2) L) <|
  ck (inb (x3 + 3) L) <|
  ck ((kd x2).1 = 12) <|
  ca (f_X12_play fu x2 (xs (ix (x3 + 1))) (xs (ix (x3 + 2))) (xs (ix (x3 + 3))) s40) fun r41 s42 =>
  if r39 = r41 then (
  b_L_law_1488 fu xs L k_18 x0 x1 x2 x3  s42)
  else (
  some 0))
  else if v1 = 10 then (
  ck (inb (x3 + 1) L) <|
  ck (inb (x3 + 2) L) <|
  ck ((kd x1).1 = 11) <|
  ca (f_X11_of fu x1 (xs (ix (x3 + 1))) (xs (ix (x3 + 2))) st) fun r43 s44 =>
  ck (inb (x3 + 1) L) <|
  ck (inb (x3 + 2) L) <|
  ck ((kd x2).1 = 12) <|
  ca (f_X12_of fu x2 (xs (ix (x3 + 1))) (xs (ix (x3 + 2))) s44) fun r45 s46 =>
  if r43 = r45 then (
  b_L_law_1488 fu xs L k_18 x0 x1 x2 x3  s46)
  else (
  some 0))
  else if v1 = 11 then (
  ck (inb (x3 + 1) L) <|
  ck (inb (x3 + 2) L) <|
  ck ((kd x1).1 = 11) <|
  ca (f_X11_level fu x1 (xs (ix (x3 + 1))) (xs (ix (x3 + 2))) st) fun r47 s48 =>
  ck (inb (x3 + 1) L) <|
  ck (inb (x3 + 2) L) <|
  ck ((kd x2).1 = 12) <|
  ca (f_X12_level fu x2 (xs (ix (x3 + 1))) (xs (ix (x3 + 2))) s48) fun r49 s50 =>
  if r47 = r49 then (
  b_L_law_1488 fu xs L k_18 x0 x1 x2 x3  s50)
  else (
  some 0))
  else if v1 = 12 then (
  ck (inb (x3 + 1) L) <|
  ck ((kd x1).1 = 11) <|
  ca (f_X11_out fu x1 (xs (ix (x3 + 1))) st) fun r51 s52 =>
  ck (inb (x3 + 1) L) <|
  ck ((kd x2).1 = 12) <|
  ca (f_X12_out fu x2 (xs (ix (x3 + 1))) s52) fun r53 s54 =>
  if r51 = r53 then (
  b_L_law_1488 fu xs L k_18 x0 x1 x2 x3  s54)
  else (
  some 0))
  else if v1 = 13 then (
  ck (inb (x3 + 1) L) <|
  ck (inb (x3 + 2) L) <|
  ck (inb (x3 + 3) L) <|
  ck ((kd x1).1 = 11) <|
  ca (f_X11_patch fu x1 (xs (ix (x3 + 1))) (xs (ix (x3 + 2))) (xs (ix (x3 + 3))) st) fun r55 s56 =>
  ck (inb (x3 + 1) L) <|
  ck (inb (x3 + 2) L) <|
  ck (inb (x3 + 3) L) <|
  ck ((kd x2).1 = 12) <|
  ca (f_X12_patch fu x2 (xs (ix (x3 + 1))) (xs (ix (x3 + 2))) (xs (ix (x3 + 3))) s56) fun r57 s58 =>
  if r55 = r57 then (
  b_L_law_1488 fu xs L k_18 x0 x1 x2 x3  s58)
  else (
  some 0))
  else if v1 = 14 then (
  ck (inb (x3 + 1) L) <|
  ck ((kd x1).1 = 11) <|
  ca (f_X11_grand fu x1 (xs (ix (x3 + 1))) st) fun r59 s60 =>
  ck (inb (x3 + 1) L) <|
  ck ((kd x2).1 = 12) <|
  ca (f_X12_grand fu x2 (xs (ix (x3 + 1))) s60) fun r61 s62 =>
  if r59 = r61 then (
  b_L_law_1488 fu xs L k_18 x0 x1 x2 x3  s62)
  else (
  some 0))
  else if v1 = 15 then (
  ck (inb (x3 + 1) L) <|
  ck ((kd x1).1 = 11) <|
  ca (f_X11_wire fu x1 (xs (ix (x3 + 1))) st) fun r63 s64 =>
  ck (inb (x3 + 1) L) <|
  ck ((kd x2).1 = 12) <|
  ca (f_X12_wire fu x2 (xs (ix (x3 + 1))) s64) fun r65 s66 =>
  if r63 = r65 then (
  b_L_law_1488 fu xs L k_18 x0 x1 x2 x3  s66)
  else (
  some 0))
  else if v1 = 16 then (
  ck (inb (x3 + 1) L) <|
  ck (inb (x3 + 2) L) <|
  ck (inb (x3 + 3) L) <|
  ck (inb (x3 + 4) L) <|
  ck (inb (x3 + 5) L) <|
  ck ((kd x1).1 = 11) <|
  ca (f_X11_axis fu x1 (xs (ix (x3 + 1))) (xs (ix (x3 + 2))) (xs (ix (x3 + 3))) (xs (ix (x3 + 4))) (xs (ix (x3 + 5))) st) fun r67 s68 =>
  ck (inb (x3 + 1) L) <|
  ck (inb (x3 + 2) L) <|
  ck (inb (x3 + 3) L) <|
  ck (inb (x3 + 4) L) <|
  ck (inb (x3 + 5) L) <|
  ck ((kd x2).1 = 12) <|
  ca (f_X12_axis fu x2 (xs (ix (x3 + 1))) (xs (ix (x3 + 2))) (xs (ix (x3 + 3))) (xs (ix (x3 + 4))) (xs (ix (x3 + 5))) s68) fun r69 s70 =>
  if r67 = r69 then (
  b_L_law_1488 fu xs L k_18 x0 x1 x2 x3  s70)
  else (
  some 0))
  else if v1 = 17 then (
  ck (inb (x3 + 1) L) <|
  ck (inb (x3 + 2) L) <|
  ck ((kd x1).1 = 11) <|
  ca (f_X11_to fu x1 (xs (ix (x3 + 1))) (xs (ix (x3 + 2))) st) fun r71 s72 =>
  ck (inb (x3 + 1) L) <|
  ck (inb (x3 + 2) L) <|
  ck ((kd x2).1 = 12) <|
  ca (f_X12_to fu x2 (xs (ix (x3 + 1))) (xs (ix (x3 + 2))) s72) fun r73 s74 =>
  if r71 = r73 then (
  b_L_law_1488 fu xs L k_18 x0 x1 x2 x3  s74)
  else (
  some 0))
  else if v1 = 18 then (
  ck (inb (x3 + 1) L) <|
  ck (inb (x3 + 2) L) <|
  ck ((kd x1).1 = 11) <|
  ca (f_X11_axisAt fu x1 (xs (ix (x3 + 1))) (xs (ix (x3 + 2))) st) fun r75 s76 =>
  ck (inb (x3 + 1) L) <|
  ck (inb (x3 + 2) L) <|
  ck ((kd x2).1 = 12) <|
  ca (f_X12_axisAt fu x2 (xs (ix (x3 + 1))) (xs (ix (x3 + 2))) s76) fun r77 s78 =>
  if r75 = r77 then (
  b_L_law_1488 fu xs L k_18 x0 x1 x2 x3  s78)
  else (
  some 0))
  else if v1 = 19 then (
  ck (inb (x3 + 1) L) <|
  ck (inb (x3 + 2) L) <|
  ck ((kd x1).1 = 11) <|
  ca (f_X11_faults fu x1 (xs (ix (x3 + 1))) (xs (ix (x3 + 2))) st) fun r79 s80 =>
  ck (inb (x3 + 1) L) <|
  ck (inb (x3 + 2) L) <|
  ck ((kd x2).1 = 12) <|
  ca (f_X12_faults fu x2 (xs (ix (x3 + 1))) (xs (ix (x3 + 2))) s80) fun r81 s82 =>
  if r79 = r81 then (
  b_L_law_1488 fu xs L k_18 x0 x1 x2 x3  s82)
  else (
  some 0))
  else if v1 = 20 then (
  ck (inb (x3 + 1) L) <|
  if (xs (ix (x3 + 1))) = 0 then (
  b_L_law_848 fu xs L k_18 x0 x1 x2 x3 x1 0 st)
  else (
  b_L_law_848 fu xs L k_18 x0 x1 x2 x3 x1 1 st))
  else if v1 = 21 then (
  ck (inb (x3 + 1) L) <|
  ck (inb (x3 + 2) L) <|
  if (xs (ix (x3 + 2))) = 0 then (
  b_L_law_890 fu xs L k_18 x0 x1 x2 x3 x1 (xs (ix (x3 + 1))) 0 st)
  else (
  b_L_law_890 fu xs L k_18 x0 x1 x2 x3 x1 (xs (ix (x3 + 1))) 1 st))
  else if v1 = 22 then (
  ck (inb (x3 + 1) L) <|
  ck ((kd x1).1 = 11) <|
  ca (f_X11_tick fu x1 (xs (ix (x3 + 1))) st) fun r89 s90 =>
  ck (inb (x3 + 1) L) <|
  ck ((kd x2).1 = 12) <|
  ca (f_X12_tick fu x2 (xs (ix (x3 + 1))) s90) fun r91 s92 =>
  if r89 = r91 then (
  b_L_law_1488 fu xs L k_18 x0 x1 x2 x3  s92)
  else (
  some 0))
  else if v1 = 23 then (
  ck (inb (x3 + 1) L) <|
  ck (inb (x3 + 2) L) <|
  ck ((kd x1).1 = 11) <|
  ca (f_X11_section fu x1 (xs (ix (x3 + 1))) (xs (ix (x3 + 2))) st) fun r93 s94 =>
  ck (inb (x3 + 1) L) <|
  ck (inb (x3 + 2) L) <|
  ck ((kd x2).1 = 12) <|
  ca (f_X12_section fu x2 (xs (ix (x3 + 1))) (xs (ix (x3 + 2))) s94) fun r95 s96 =>
  if r93 = r95 then (
  b_L_law_1488 fu xs L k_18 x0 x1 x2 x3  s96)
  else (
  some 0))
  else if v1 = 24 then (
  ck (inb (x3 + 1) L) <|
  ck (inb (x3 + 2) L) <|
  ck (inb (x3 + 3) L) <|
  ck ((kd x1).1 = 11) <|
  ca (f_X11_row fu x1 (xs (ix (x3 + 1))) (xs (ix (x3 + 2))) (xs (ix (x3 + 3))) st) fun r97 s98 =>
  ck (inb (x3 + 1) L) <|
  ck (inb (x3 + 2) L) <|
  ck (inb (x3 + 3) L) <|
  ck ((kd x2).1 = 12) <|
  ca (f_X12_row fu x2 (xs (ix (x3 + 1))) (xs (ix (x3 + 2))) (xs (ix (x3 + 3))) s98) fun r99 s100 =>
  if r97 = r99 then (
  b_L_law_1488 fu xs L k_18 x0 x1 x2 x3  s100)
  else (
  some 0))
  else if v1 = 25 then (
  ck (inb (x3 + 1) L) <|
  ck (inb (x3 + 2) L) <|
  if (xs (ix (x3 + 2))) = 0 then (
  b_L_law_1038 fu xs L k_18 x0 x1 x2 x3 x1 (xs (ix (x3 + 1))) 0 st)
  else (
  b_L_law_1038 fu xs L k_18 x0 x1 x2 x3 x1 (xs (ix (x3 + 1))) 1 st))
  else if v1 = 26 then (
  ck (inb (x3 + 1) L) <|
  ck (inb (x3 + 2) L) <|
  ck (inb (x3 + 3) L) <|
  ck (inb (x3 + 4) L) <|
  ck (inb (x3 + 5) L) <|
  ck (inb (x3 + 6) L) <|
  ck ((kd x1).1 = 11) <|
  ca (f_X11_ask fu x1 (xs (ix (x3 + 1))) (xs (ix (x3 + 2))) (xs (ix (x3 + 3))) (xs (ix (x3 + 4))) (xs (ix (x3 + 5))) (xs (ix (x3 + 6))) st) fun r105 s106 =>
  ck (inb (x3 + 1) L) <|
  ck (inb (x3 + 2) L) <|
  ck (inb (x3 + 3) L) <|
  ck (inb (x3 + 4) L) <|
  ck (inb (x3 + 5) L) <|
  ck (inb (x3 + 6) L) <|
  ck ((kd x2).1 = 12) <|
  ca (f_X12_ask fu x2 (xs (ix (x3 + 1))) (xs (ix (x3 + 2))) (xs (ix (x3 + 3))) (xs (ix (x3 + 4))) (xs (ix (x3 + 5))) (xs (ix (x3 + 6))) s106) fun r107 s108 =>
  if r105 = r107 then (
  b_L_law_1488 fu xs L k_18 x0 x1 x2 x3  s108)
  else (
  some 0))
  else if v1 = 27 then (
  ck (inb (x3 + 1) L) <|
  ck (inb (x3 + 2) L) <|
  ck ((kd x1).1 = 11) <|
  ca (f_X11_hold fu x1 (xs (ix (x3 + 1))) (xs (ix (x3 + 2))) st) fun r109 s110 =>
  ck (inb (x3 + 1) L) <|
  ck (inb (x3 + 2) L) <|
  ck ((kd x2).1 = 12) <|
  ca (f_X12_hold fu x2 (xs (ix (x3 + 1))) (xs (ix (x3 + 2))) s110) fun r111 s112 =>
  if r109 = r111 then (
  b_L_law_1488 fu xs L k_18 x0 x1 x2 x3  s112)
  else (
  some 0))
  else if v1 = 28 then (
  ck (inb (x3 + 1) L) <|
  ck (inb (x3 + 2) L) <|
  ck ((kd x1).1 = 11) <|
  ca (f_X11_pay fu x1 (xs (ix (x3 + 1))) (xs (ix (x3 + 2))) st) fun r113 s114 =>
  ck (inb (x3 + 1) L) <|
  ck (inb (x3 + 2) L) <|
  ck ((kd x2).1 = 12) <|
  ca (f_X12_pay fu x2 (xs (ix (x3 + 1))) (xs (ix (x3 + 2))) s114) fun r115 s116 =>
  if r113 = r115 then (
  b_L_law_1488 fu xs L k_18 x0 x1 x2 x3  s116)
  else (
  some 0))
  else if v1 = 29 then (
  ck (inb (x3 + 1) L) <|
  ck ((kd x1).1 = 11) <|
  ca (f_X11_give fu x1 (xs (ix (x3 + 1))) st) fun r117 s118 =>
  ck (inb (x3 + 1) L) <|
  ck ((kd x2).1 = 12) <|
  ca (f_X12_give fu x2 (xs (ix (x3 + 1))) s118) fun r119 s120 =>
  if r117 = r119 then (
  b_L_law_1488 fu xs L k_18 x0 x1 x2 x3  s120)
  else (
  some 0))
  else if v1 = 30 then (
  ck (inb (x3 + 1) L) <|
  ck (inb (x3 + 2) L) <|
  ck ((kd x1).1 = 11) <|
  ca (f_X11_back fu x1 (xs (ix (x3 + 1))) (xs (ix (x3 + 2))) st) fun r121 s122 =>
  ck (inb (x3 + 1) L) <|
  ck (inb (x3 + 2) L) <|
  ck ((kd x2).1 = 12) <|
  ca (f_X12_back fu x2 (xs (ix (x3 + 1))) (xs (ix (x3 + 2))) s122) fun r123 s124 =>
  if r121 = r123 then (
  b_L_law_1488 fu xs L k_18 x0 x1 x2 x3  s124)
  else (
  some 0))
  else if v1 = 31 then (
  ck (inb (x3 + 1) L) <|
  ck ((kd x1).1 = 11) <|
  ca (f_X11_enter fu x1 (xs (ix (x3 + 1))) st) fun r125 s126 =>
  ck (inb (x3 + 1) L) <|
  ck ((kd x2).1 = 12) <|
  ca (f_X12_enter fu x2 (xs (ix (x3 + 1))) s126) fun r127 s128 =>
  if r125 = r127 then (
  b_L_law_1488 fu xs L k_18 x0 x1 x2 x3  s128)
  else (
  some 0))
  else if v1 = 32 then (
  ck (inb (x3 + 1) L) <|
  ck (inb (x3 + 2) L) <|
  ck ((kd x1).1 = 11) <|
  ca (f_X11_seat fu x1 (xs (ix (x3 + 1))) (xs (ix (x3 + 2))) st) fun r129 s130 =>
  ck (inb (x3 + 1) L) <|
  ck (inb (x3 + 2) L) <|
  ck ((kd x2).1 = 12) <|
  ca (f_X12_seat fu x2 (xs (ix (x3 + 1))) (xs (ix (x3 + 2))) s130) fun r131 s132 =>
  if r129 = r131 then (
  b_L_law_1488 fu xs L k_18 x0 x1 x2 x3  s132)
  else (
  some 0))
  else if v1 = 33 then (
  ck (inb (x3 + 1) L) <|
  ck ((kd x1).1 = 11) <|
  ca (f_X11_told fu x1 (xs (ix (x3 + 1))) st) fun r133 s134 =>
  ck (inb (x3 + 1) L) <|
  ck ((kd x2).1 = 12) <|
  ca (f_X12_told fu x2 (xs (ix (x3 + 1))) s134) fun r135 s136 =>
  if r133 = r135 then (
  b_L_law_1488 fu xs L k_18 x0 x1 x2 x3  s136)
  else (
  some 0))
  else if v1 = 34 then (
  ck (inb (x3 + 1) L) <|
  ck (inb (x3 + 2) L) <|
  ck ((kd x1).1 = 11) <|
  ca (f_X11_share fu x1 (xs (ix (x3 + 1))) (xs (ix (x3 + 2))) st) fun r137 s138 =>
  ck (inb (x3 + 1) L) <|
  ck (inb (x3 + 2) L) <|
  ck ((kd x2).1 = 12) <|
  ca (f_X12_share fu x2 (xs (ix (x3 + 1))) (xs (ix (x3 + 2))) s138) fun r139 s140 =>
  if (lg_cmp r137 r139) = 0 then (
  b_L_law_1488 fu xs L k_18 x0 x1 x2 x3  s140)
  else (
  some 0))
  else if v1 = 35 then (
  ck (inb (x3 + 1) L) <|
  ck (inb (x3 + 2) L) <|
  ck (inb (x3 + 3) L) <|
  ck (inb (x3 + 4) L) <|
  ck ((kd x1).1 = 11) <|
  ca (f_X11_way fu x1 (xs (ix (x3 + 1))) (xs (ix (x3 + 2))) (xs (ix (x3 + 3))) (xs (ix (x3 + 4))) st) fun r141 s142 =>
  ck (inb (x3 + 1) L) <|
  ck (inb (x3 + 2) L) <|
  ck (inb (x3 + 3) L) <|
  ck (inb (x3 + 4) L) <|
  ck ((kd x2).1 = 12) <|
  ca (f_X12_way fu x2 (xs (ix (x3 + 1))) (xs (ix (x3 + 2))) (xs (ix (x3 + 3))) (xs (ix (x3 + 4))) s142) fun r143 s144 =>
  if r141 = r143 then (
  b_L_law_1488 fu xs L k_18 x0 x1 x2 x3  s144)
  else (
  some 0))
  else if v1 = 36 then (
  ck (inb (x3 + 1) L) <|
  ck (inb (x3 + 2) L) <|
  ck ((kd x1).1 = 11) <|
  ca (f_X11_crowd fu x1 (xs (ix (x3 + 1))) (xs (ix (x3 + 2))) st) fun r145 s146 =>
  ck (inb (x3 + 1) L) <|
  ck (inb (x3 + 2) L) <|
  ck ((kd x2).1 = 12) <|
  ca (f_X12_crowd fu x2 (xs (ix (x3 + 1))) (xs (ix (x3 + 2))) s146) fun r147 s148 =>
  if r145 = r147 then (
  b_L_law_1488 fu xs L k_18 x0 x1 x2 x3  s148)
  else (
  some 0))
  else if v1 = 37 then (
  ck ((kd x1).1 = 11) <|
  cv (f_X11_clearWays fu x1 st) fun s149 =>
  ck ((kd x2).1 = 12) <|
  cv (f_X12_clearWays fu x2 s149) fun s150 =>
  b_L_law_1488 fu xs L k_18 x0 x1 x2 x3  s150)
  else if v1 = 38 then (
  ck ((kd x1).1 = 11) <|
  ca (f_X11_empty fu x1 st) fun r151 s152 =>
  ck ((kd x2).1 = 12) <|
  ca (f_X12_empty fu x2 s152) fun r153 s154 =>
  if r151 = r153 then (
  b_L_law_1488 fu xs L k_18 x0 x1 x2 x3  s154)
  else (
  some 0))
  else (
  b_L_law_1488 fu xs L k_18 x0 x1 x2 x3  st))
set_option maxHeartbeats 4000000 in
set_option maxRecDepth 100000 in
theorem t_L_law_18_b {X : CX} {sb : Nat} (fu : Nat) (xs : Nat → Int32) (L : Nat) (B : BQ X sb L xs) (k_18 : Nat → Nat → Nat → Int32 → St → Option (Int32)) (h_18 : ∀ (x0 : Nat) (x1 : Nat) (x2 : Nat) (x3 : Int32)  (st : St), WW X (1 : Int32) NN 18 [(0, .ref sb), (1, .ref (x_b X + x1)), (2, .ref (x_b X + x2)), (3, .int x3)] [] st (k_18 x0 x1 x2 x3 st)) (x0 : Nat) (x1 : Nat) (x2 : Nat) (x3 : Int32)  (st : St) : WW X (1 : Int32) NN 18 [(0, .ref sb), (1, .ref (x_b X + x1)), (2, .ref (x_b X + x2)), (3, .int x3)] [] st (b_L_law_18_b fu xs L k_18 x0 x1 x2 x3 st) := by
  have hX := B.1
  have hL := B.2.1
  unfold b_L_law_18_b
  refine ww_iload_n hX 3 rfl dL_law_18 rfl ?_
  refine ww_aload_n hX 0 rfl dL_law_19 rfl ?_
  refine ww_slen B dL_law_20 ?_
  refine ww_bipush (v := 7) hX rfl dL_law_21 ?_
  refine ww_isub hX dL_law_23 ?_
  refine ww_icmp_gt (tgt := 1494) hX dL_law_24 (by decide) ?_ ?_
  · refine ww_iconst (v := 1) hX rfl dL_law_1494 ?_
    exact ww_lawret B dL_law_1495
  · refine ww_aload_n hX 0 rfl dL_law_27 rfl ?_
    refine ww_iload_n hX 3 rfl dL_law_28 rfl ?_
    refine ww_sld B dL_law_29 ?_
    refine ww_bipush (v := 63) hX rfl dL_law_30 ?_
    refine ww_iand hX dL_law_32 ?_
    refine ww_bdi (fun v1 => ?_)
    refine ww_if (fun c33_0 => ?_) (fun c33_0 => ?_)
    · refine ww_tsw (off := 171) (tgt := 204) hX dL_law_33 (by rw [c33_0]; decide) (by rw [c33_0]; decide) (by rw [c33_0]; rfl) (by decide) ?_
      refine ww_aload_n hX 1 rfl dL_law_204 rfl ?_
      refine ww_aload_n hX 0 rfl dL_law_205 rfl ?_
      refine ww_iload_n hX 3 rfl dL_law_206 rfl ?_
      refine ww_iconst (v := 1) hX rfl dL_law_207 ?_
      refine ww_iadd hX dL_law_208 ?_
      refine ww_sld B dL_law_209 ?_
      refine ww_aload_n hX 0 rfl dL_law_210 rfl ?_
      refine ww_pc (b := 211) rfl ?_
      refine ww_iload_n hX 3 rfl dL_law_211 rfl ?_
      refine ww_iconst (v := 2) hX rfl dL_law_212 ?_
      refine ww_iadd hX dL_law_213 ?_
      refine ww_sld B dL_law_214 ?_
      refine ww_aload_n hX 0 rfl dL_law_215 rfl ?_
      refine ww_iload_n hX 3 rfl dL_law_216 rfl ?_
      refine ww_iconst (v := 3) hX rfl dL_law_217 ?_
      refine ww_iadd hX dL_law_218 ?_
      refine ww_pc (b := 219) rfl ?_
      refine ww_sld B dL_law_219 ?_
      refine ww_aload_n hX 0 rfl dL_law_220 rfl ?_
      refine ww_iload_n hX 3 rfl dL_law_221 rfl ?_
      refine ww_iconst (v := 4) hX rfl dL_law_222 ?_
      refine ww_iadd hX dL_law_223 ?_
      refine ww_sld B dL_law_224 ?_
      refine ww_aload_n hX 0 rfl dL_law_225 rfl ?_
      refine ww_iload_n hX 3 rfl dL_law_226 rfl ?_
      refine ww_pc (b := 227) rfl ?_
      refine ww_iconst (v := 5) hX rfl dL_law_227 ?_
      refine ww_iadd hX dL_law_228 ?_
      refine ww_sld B dL_law_229 ?_
      refine ww_callVI (As := [.int (xs (ix (x3 + 1))), .int (xs (ix (x3 + 2))), .int (xs (ix (x3 + 3))), .int (xs (ix (x3 + 4))), .int (xs (ix (x3 + 5)))]) (rest := []) (o := x1) hX (B.rk (by decide) (by decide)) g_L_13 g_L_13.in (fun _ => c_X11_feed (x_G X) (x_l X) fu x1 (xs (ix (x3 + 1))) (xs (ix (x3 + 2))) (xs (ix (x3 + 3))) (xs (ix (x3 + 4))) (xs (ix (x3 + 5))) st) rfl rfl (Nat.le_of_ble_eq_true rfl) dL_law_230 (fun r2 s3 => ?_)
      refine ww_aload_n hX 2 rfl dL_law_233 rfl ?_
      refine ww_aload_n hX 0 rfl dL_law_234 rfl ?_
      refine ww_iload_n hX 3 rfl dL_law_235 rfl ?_
      refine ww_iconst (v := 1) hX rfl dL_law_236 ?_
      refine ww_pc (b := 237) rfl ?_
      refine ww_iadd hX dL_law_237 ?_
      refine ww_sld B dL_law_238 ?_
      refine ww_aload_n hX 0 rfl dL_law_239 rfl ?_
      refine ww_iload_n hX 3 rfl dL_law_240 rfl ?_
      refine ww_iconst (v := 2) hX rfl dL_law_241 ?_
      refine ww_iadd hX dL_law_242 ?_
      refine ww_sld B dL_law_243 ?_
      refine ww_aload_n hX 0 rfl dL_law_244 rfl ?_
      refine ww_pc (b := 245) rfl ?_
      refine ww_iload_n hX 3 rfl dL_law_245 rfl ?_
      refine ww_iconst (v := 3) hX rfl dL_law_246 ?_
      refine ww_iadd hX dL_law_247 ?_
      refine ww_sld B dL_law_248 ?_
      refine ww_aload_n hX 0 rfl dL_law_249 rfl ?_
      refine ww_iload_n hX 3 rfl dL_law_250 rfl ?_
      refine ww_iconst (v := 4) hX rfl dL_law_251 ?_
      refine ww_iadd hX dL_law_252 ?_
      refine ww_pc (b := 253) rfl ?_
      refine ww_sld B dL_law_253 ?_
      refine ww_aload_n hX 0 rfl dL_law_254 rfl ?_
      refine ww_iload_n hX 3 rfl dL_law_255 rfl ?_
      refine ww_iconst (v := 5) hX rfl dL_law_256 ?_
      refine ww_iadd hX dL_law_257 ?_
      refine ww_sld B dL_law_258 ?_
      refine ww_callVI (As := [.int (xs (ix (x3 + 1))), .int (xs (ix (x3 + 2))), .int (xs (ix (x3 + 3))), .int (xs (ix (x3 + 4))), .int (xs (ix (x3 + 5)))]) (rest := [.int r2]) (o := x2) hX (B.rk (by decide) (by decide)) g_L_17 g_L_17.in (fun _ => c_X12_feed (x_G X) (x_l X) fu x2 (xs (ix (x3 + 1))) (xs (ix (x3 + 2))) (xs (ix (x3 + 3))) (xs (ix (x3 + 4))) (xs (ix (x3 + 5))) s3) rfl rfl (Nat.le_of_ble_eq_true rfl) dL_law_259 (fun r4 s5 => ?_)
      refine ww_icmp_eq (tgt := 1488) hX dL_law_262 (by decide) ?_ ?_
      · exact t_L_law_1488 fu xs L B k_18 h_18 x0 x1 x2 x3  s5
      · refine ww_iconst (v := 0) hX rfl dL_law_265 ?_
        exact ww_lawret B dL_law_266
    refine ww_if (fun c33_1 => ?_) (fun c33_1 => ?_)
    · refine ww_tsw (off := 234) (tgt := 267) hX dL_law_33 (by rw [c33_1]; decide) (by rw [c33_1]; decide) (by rw [c33_1]; rfl) (by decide) ?_
      refine ww_aload_n hX 1 rfl dL_law_267 rfl ?_
      refine ww_aload_n hX 0 rfl dL_law_268 rfl ?_
      refine ww_iload_n hX 3 rfl dL_law_269 rfl ?_
      refine ww_iconst (v := 1) hX rfl dL_law_270 ?_
      refine ww_iadd hX dL_law_271 ?_
      refine ww_sld B dL_law_272 ?_
      refine ww_callVI (As := [.int (xs (ix (x3 + 1)))]) (rest := []) (o := x1) hX (B.rk (by decide) (by decide)) g_L_18 g_L_18.in (fun _ => c_X11_cut (x_G X) (x_l X) fu x1 (xs (ix (x3 + 1))) st) rfl rfl (Nat.le_of_ble_eq_true rfl) dL_law_273 (fun r7 s8 => ?_)
      refine ww_pc (b := 276) rfl ?_
      refine ww_aload_n hX 2 rfl dL_law_276 rfl ?_
      refine ww_aload_n hX 0 rfl dL_law_277 rfl ?_
      refine ww_iload_n hX 3 rfl dL_law_278 rfl ?_
      refine ww_iconst (v := 1) hX rfl dL_law_279 ?_
      refine ww_iadd hX dL_law_280 ?_
      refine ww_sld B dL_law_281 ?_
      refine ww_callVI (As := [.int (xs (ix (x3 + 1)))]) (rest := [.int r7]) (o := x2) hX (B.rk (by decide) (by decide)) g_L_22 g_L_22.in (fun _ => c_X12_cut (x_G X) (x_l X) fu x2 (xs (ix (x3 + 1))) s8) rfl rfl (Nat.le_of_ble_eq_true rfl) dL_law_282 (fun r9 s10 => ?_)
      refine ww_icmp_eq (tgt := 1488) hX dL_law_285 (by decide) ?_ ?_
      · exact t_L_law_1488 fu xs L B k_18 h_18 x0 x1 x2 x3  s10
      · refine ww_iconst (v := 0) hX rfl dL_law_288 ?_
        exact ww_lawret B dL_law_289
    refine ww_if (fun c33_2 => ?_) (fun c33_2 => ?_)
    · refine ww_tsw (off := 257) (tgt := 290) hX dL_law_33 (by rw [c33_2]; decide) (by rw [c33_2]; decide) (by rw [c33_2]; rfl) (by decide) ?_
      refine ww_aload_n hX 1 rfl dL_law_290 rfl ?_
      refine ww_aload_n hX 0 rfl dL_law_291 rfl ?_
      refine ww_iload_n hX 3 rfl dL_law_292 rfl ?_
      refine ww_iconst (v := 1) hX rfl dL_law_293 ?_
      refine ww_iadd hX dL_law_294 ?_
      refine ww_sld B dL_law_295 ?_
      refine ww_callVI (As := [.int (xs (ix (x3 + 1)))]) (rest := []) (o := x1) hX (B.rk (by decide) (by decide)) g_L_23 g_L_23.in (fun _ => c_X11_list (x_G X) (x_l X) fu x1 (xs (ix (x3 + 1))) st) rfl rfl (Nat.le_of_ble_eq_true rfl) dL_law_296 (fun r11 s12 => ?_)
      refine ww_pc (b := 299) rfl ?_
      refine ww_aload_n hX 2 rfl dL_law_299 rfl ?_
      refine ww_aload_n hX 0 rfl dL_law_300 rfl ?_
      refine ww_iload_n hX 3 rfl dL_law_301 rfl ?_
      refine ww_iconst (v := 1) hX rfl dL_law_302 ?_
      refine ww_iadd hX dL_law_303 ?_
      refine ww_sld B dL_law_304 ?_
      refine ww_callVI (As := [.int (xs (ix (x3 + 1)))]) (rest := [.int r11]) (o := x2) hX (B.rk (by decide) (by decide)) g_L_26 g_L_26.in (fun _ => c_X12_list (x_G X) (x_l X) fu x2 (xs (ix (x3 + 1))) s12) rfl rfl (Nat.le_of_ble_eq_true rfl) dL_law_305 (fun r13 s14 => ?_)
      refine ww_icmp_eq (tgt := 1488) hX dL_law_308 (by decide) ?_ ?_
      · exact t_L_law_1488 fu xs L B k_18 h_18 x0 x1 x2 x3  s14
      · refine ww_iconst (v := 0) hX rfl dL_law_311 ?_
        exact ww_lawret B dL_law_312
    refine ww_if (fun c33_3 => ?_) (fun c33_3 => ?_)
    · refine ww_tsw (off := 280) (tgt := 313) hX dL_law_33 (by rw [c33_3]; decide) (by rw [c33_3]; decide) (by rw [c33_3]; rfl) (by decide) ?_
      refine ww_aload_n hX 1 rfl dL_law_313 rfl ?_
      refine ww_aload_n hX 0 rfl dL_law_314 rfl ?_
      refine ww_iload_n hX 3 rfl dL_law_315 rfl ?_
      refine ww_iconst (v := 1) hX rfl dL_law_316 ?_
      refine ww_iadd hX dL_law_317 ?_
      refine ww_sld B dL_law_318 ?_
      refine ww_callVI (As := [.int (xs (ix (x3 + 1)))]) (rest := []) (o := x1) hX (B.rk (by decide) (by decide)) g_L_27 g_L_27.in (fun _ => c_X11_lock (x_G X) (x_l X) fu x1 (xs (ix (x3 + 1))) st) rfl rfl (Nat.le_of_ble_eq_true rfl) dL_law_319 (fun r15 s16 => ?_)
      refine ww_pc (b := 322) rfl ?_
      refine ww_aload_n hX 2 rfl dL_law_322 rfl ?_
      refine ww_aload_n hX 0 rfl dL_law_323 rfl ?_
      refine ww_iload_n hX 3 rfl dL_law_324 rfl ?_
      refine ww_iconst (v := 1) hX rfl dL_law_325 ?_
      refine ww_iadd hX dL_law_326 ?_
      refine ww_sld B dL_law_327 ?_
      refine ww_callVI (As := [.int (xs (ix (x3 + 1)))]) (rest := [.int r15]) (o := x2) hX (B.rk (by decide) (by decide)) g_L_30 g_L_30.in (fun _ => c_X12_lock (x_G X) (x_l X) fu x2 (xs (ix (x3 + 1))) s16) rfl rfl (Nat.le_of_ble_eq_true rfl) dL_law_328 (fun r17 s18 => ?_)
      refine ww_icmp_eq (tgt := 1488) hX dL_law_331 (by decide) ?_ ?_
      · exact t_L_law_1488 fu xs L B k_18 h_18 x0 x1 x2 x3  s18
      · refine ww_iconst (v := 0) hX rfl dL_law_334 ?_
        exact ww_lawret B dL_law_335
    refine ww_if (fun c33_4 => ?_) (fun c33_4 => ?_)
    · refine ww_tsw (off := 303) (tgt := 336) hX dL_law_33 (by rw [c33_4]; decide) (by rw [c33_4]; decide) (by rw [c33_4]; rfl) (by decide) ?_
      refine ww_aload_n hX 1 rfl dL_law_336 rfl ?_
      refine ww_callVI (As := []) (rest := []) (o := x1) hX (B.rk (by decide) (by decide)) g_L_31 g_L_31.in (fun _ => c_X11_rules (x_G X) (x_l X) fu x1 st) rfl rfl (Nat.le_of_ble_eq_true rfl) dL_law_337 (fun r19 s20 => ?_)
      refine ww_aload_n hX 2 rfl dL_law_340 rfl ?_
      refine ww_callVI (As := []) (rest := [.int r19]) (o := x2) hX (B.rk (by decide) (by decide)) g_L_35 g_L_35.in (fun _ => c_X12_rules (x_G X) (x_l X) fu x2 s20) rfl rfl (Nat.le_of_ble_eq_true rfl) dL_law_341 (fun r21 s22 => ?_)
      refine ww_icmp_eq (tgt := 1488) hX dL_law_344 (by decide) ?_ ?_
      · exact t_L_law_1488 fu xs L B k_18 h_18 x0 x1 x2 x3  s22
      · refine ww_iconst (v := 0) hX rfl dL_law_347 ?_
        exact ww_lawret B dL_law_348
    refine ww_if (fun c33_5 => ?_) (fun c33_5 => ?_)
    · refine ww_tsw (off := 316) (tgt := 349) hX dL_law_33 (by rw [c33_5]; decide) (by rw [c33_5]; decide) (by rw [c33_5]; rfl) (by decide) ?_
      refine ww_aload_n hX 1 rfl dL_law_349 rfl ?_
      refine ww_callVI (As := []) (rest := []) (o := x1) hX (B.rk (by decide) (by decide)) g_L_36 g_L_36.in (fun _ => c_X11_shares (x_G X) (x_l X) fu x1 st) rfl rfl (Nat.le_of_ble_eq_true rfl) dL_law_350 (fun r23 s24 => ?_)
      refine ww_aload_n hX 2 rfl dL_law_353 rfl ?_
      refine ww_callVI (As := []) (rest := [.int r23]) (o := x2) hX (B.rk (by decide) (by decide)) g_L_39 g_L_39.in (fun _ => c_X12_shares (x_G X) (x_l X) fu x2 s24) rfl rfl (Nat.le_of_ble_eq_true rfl) dL_law_354 (fun r25 s26 => ?_)
      refine ww_icmp_eq (tgt := 1488) hX dL_law_357 (by decide) ?_ ?_
      · exact t_L_law_1488 fu xs L B k_18 h_18 x0 x1 x2 x3  s26
      · refine ww_iconst (v := 0) hX rfl dL_law_360 ?_
        exact ww_lawret B dL_law_361
    refine ww_if (fun c33_6 => ?_) (fun c33_6 => ?_)
    · refine ww_tsw (off := 329) (tgt := 362) hX dL_law_33 (by rw [c33_6]; decide) (by rw [c33_6]; decide) (by rw [c33_6]; rfl) (by decide) ?_
      refine ww_aload_n hX 1 rfl dL_law_362 rfl ?_
      refine ww_callVI (As := []) (rest := []) (o := x1) hX (B.rk (by decide) (by decide)) g_L_40 g_L_40.in (fun _ => c_X11_fault (x_G X) (x_l X) fu x1 st) rfl rfl (Nat.le_of_ble_eq_true rfl) dL_law_363 (fun r27 s28 => ?_)
      refine ww_aload_n hX 2 rfl dL_law_366 rfl ?_
      refine ww_callVI (As := []) (rest := [.int r27]) (o := x2) hX (B.rk (by decide) (by decide)) g_L_43 g_L_43.in (fun _ => c_X12_fault (x_G X) (x_l X) fu x2 s28) rfl rfl (Nat.le_of_ble_eq_true rfl) dL_law_367 (fun r29 s30 => ?_)
      refine ww_icmp_eq (tgt := 1488) hX dL_law_370 (by decide) ?_ ?_
      · exact t_L_law_1488 fu xs L B k_18 h_18 x0 x1 x2 x3  s30
      · refine ww_iconst (v := 0) hX rfl dL_law_373 ?_
        exact ww_lawret B dL_law_374
    refine ww_if (fun c33_7 => ?_) (fun c33_7 => ?_)
    · refine ww_tsw (off := 342) (tgt := 375) hX dL_law_33 (by rw [c33_7]; decide) (by rw [c33_7]; decide) (by rw [c33_7]; rfl) (by decide) ?_
      refine ww_aload_n hX 1 rfl dL_law_375 rfl ?_
      refine ww_aload_n hX 0 rfl dL_law_376 rfl ?_
      refine ww_iload_n hX 3 rfl dL_law_377 rfl ?_
      refine ww_iconst (v := 1) hX rfl dL_law_378 ?_
      refine ww_iadd hX dL_law_379 ?_
      refine ww_sld B dL_law_380 ?_
      refine ww_aload_n hX 0 rfl dL_law_381 rfl ?_
      refine ww_pc (b := 382) rfl ?_
      refine ww_iload_n hX 3 rfl dL_law_382 rfl ?_
      refine ww_iconst (v := 2) hX rfl dL_law_383 ?_
      refine ww_iadd hX dL_law_384 ?_
      refine ww_sld B dL_law_385 ?_
      refine ww_aload_n hX 0 rfl dL_law_386 rfl ?_
      refine ww_iload_n hX 3 rfl dL_law_387 rfl ?_
      refine ww_iconst (v := 3) hX rfl dL_law_388 ?_
      refine ww_iadd hX dL_law_389 ?_
      refine ww_pc (b := 390) rfl ?_
      refine ww_sld B dL_law_390 ?_
      refine ww_aload_n hX 0 rfl dL_law_391 rfl ?_
      refine ww_iload_n hX 3 rfl dL_law_392 rfl ?_
      refine ww_iconst (v := 4) hX rfl dL_law_393 ?_
      refine ww_iadd hX dL_law_394 ?_
      refine ww_sld B dL_law_395 ?_
      refine ww_callVI (As := [.int (xs (ix (x3 + 1))), .int (xs (ix (x3 + 2))), .int (xs (ix (x3 + 3))), .int (xs (ix (x3 + 4)))]) (rest := []) (o := x1) hX (B.rk (by decide) (by decide)) g_L_44 g_L_44.in (fun _ => c_X11_tracks (x_G X) (x_l X) fu x1 (xs (ix (x3 + 1))) (xs (ix (x3 + 2))) (xs (ix (x3 + 3))) (xs (ix (x3 + 4))) st) rfl rfl (Nat.le_of_ble_eq_true rfl) dL_law_396 (fun r31 s32 => ?_)
      refine ww_aload_n hX 2 rfl dL_law_399 rfl ?_
      refine ww_pc (b := 400) rfl ?_
      refine ww_aload_n hX 0 rfl dL_law_400 rfl ?_
      refine ww_iload_n hX 3 rfl dL_law_401 rfl ?_
      refine ww_iconst (v := 1) hX rfl dL_law_402 ?_
      refine ww_iadd hX dL_law_403 ?_
      refine ww_sld B dL_law_404 ?_
      refine ww_aload_n hX 0 rfl dL_law_405 rfl ?_
      refine ww_iload_n hX 3 rfl dL_law_406 rfl ?_
      refine ww_iconst (v := 2) hX rfl dL_law_407 ?_
      refine ww_pc (b := 408) rfl ?_
      refine ww_iadd hX dL_law_408 ?_
      refine ww_sld B dL_law_409 ?_
      refine ww_aload_n hX 0 rfl dL_law_410 rfl ?_
      refine ww_iload_n hX 3 rfl dL_law_411 rfl ?_
      refine ww_iconst (v := 3) hX rfl dL_law_412 ?_
      refine ww_iadd hX dL_law_413 ?_
      refine ww_sld B dL_law_414 ?_
      refine ww_aload_n hX 0 rfl dL_law_415 rfl ?_
      refine ww_pc (b := 416) rfl ?_
      refine ww_iload_n hX 3 rfl dL_law_416 rfl ?_
      refine ww_iconst (v := 4) hX rfl dL_law_417 ?_
      refine ww_iadd hX dL_law_418 ?_
      refine ww_sld B dL_law_419 ?_
      refine ww_callVI (As := [.int (xs (ix (x3 + 1))), .int (xs (ix (x3 + 2))), .int (xs (ix (x3 + 3))), .int (xs (ix (x3 + 4)))]) (rest := [.int r31]) (o := x2) hX (B.rk (by decide) (by decide)) g_L_48 g_L_48.in (fun _ => c_X12_tracks (x_G X) (x_l X) fu x2 (xs (ix (x3 + 1))) (xs (ix (x3 + 2))) (xs (ix (x3 + 3))) (xs (ix (x3 + 4))) s32) rfl rfl (Nat.le_of_ble_eq_true rfl) dL_law_420 (fun r33 s34 => ?_)
      refine ww_icmp_eq (tgt := 1488) hX dL_law_423 (by decide) ?_ ?_
      · exact t_L_law_1488 fu xs L B k_18 h_18 x0 x1 x2 x3  s34
      · refine ww_iconst (v := 0) hX rfl dL_law_426 ?_
        exact ww_lawret B dL_law_427
    refine ww_if (fun c33_8 => ?_) (fun c33_8 => ?_)
    · refine ww_tsw (off := 395) (tgt := 428) hX dL_law_33 (by rw [c33_8]; decide) (by rw [c33_8]; decide) (by rw [c33_8]; rfl) (by decide) ?_
      refine ww_aload_n hX 1 rfl dL_law_428 rfl ?_
      refine ww_aload_n hX 0 rfl dL_law_429 rfl ?_
      refine ww_iload_n hX 3 rfl dL_law_430 rfl ?_
      refine ww_iconst (v := 1) hX rfl dL_law_431 ?_
      refine ww_iadd hX dL_law_432 ?_
      refine ww_sld B dL_law_433 ?_
      refine ww_callVI (As := [.int (xs (ix (x3 + 1)))]) (rest := []) (o := x1) hX (B.rk (by decide) (by decide)) g_L_49 g_L_49.in (fun _ => c_X11_go (x_G X) (x_l X) fu x1 (xs (ix (x3 + 1))) st) rfl rfl (Nat.le_of_ble_eq_true rfl) dL_law_434 (fun r35 s36 => ?_)
      refine ww_pc (b := 437) rfl ?_
      refine ww_aload_n hX 2 rfl dL_law_437 rfl ?_
      refine ww_aload_n hX 0 rfl dL_law_438 rfl ?_
      refine ww_iload_n hX 3 rfl dL_law_439 rfl ?_
      refine ww_iconst (v := 1) hX rfl dL_law_440 ?_
      refine ww_iadd hX dL_law_441 ?_
      refine ww_sld B dL_law_442 ?_
      refine ww_callVI (As := [.int (xs (ix (x3 + 1)))]) (rest := [.int r35]) (o := x2) hX (B.rk (by decide) (by decide)) g_L_53 g_L_53.in (fun _ => c_X12_go (x_G X) (x_l X) fu x2 (xs (ix (x3 + 1))) s36) rfl rfl (Nat.le_of_ble_eq_true rfl) dL_law_443 (fun r37 s38 => ?_)
      refine ww_icmp_eq (tgt := 1488) hX dL_law_446 (by decide) ?_ ?_
      · exact t_L_law_1488 fu xs L B k_18 h_18 x0 x1 x2 x3  s38
      · refine ww_iconst (v := 0) hX rfl dL_law_449 ?_
        exact ww_lawret B dL_law_450
    refine ww_if (fun c33_9 => ?_) (fun c33_9 => ?_)
    · refine ww_tsw (off := 418) (tgt := 451) hX dL_law_33 (by rw [c33_9]; decide) (by rw [c33_9]; decide) (by rw [c33_9]; rfl) (by decide) ?_
      refine ww_aload_n hX 1 rfl dL_law_451 rfl ?_
      refine ww_aload_n hX 0 rfl dL_law_452 rfl ?_
      refine ww_iload_n hX 3 rfl dL_law_453 rfl ?_
      refine ww_iconst (v := 1) hX rfl dL_law_454 ?_
      refine ww_iadd hX dL_law_455 ?_
      refine ww_sld B dL_law_456 ?_
      refine ww_aload_n hX 0 rfl dL_law_457 rfl ?_
      refine ww_pc (b := 458) rfl ?_
      refine ww_iload_n hX 3 rfl dL_law_458 rfl ?_
      refine ww_iconst (v := 2) hX rfl dL_law_459 ?_
      refine ww_iadd hX dL_law_460 ?_
      refine ww_sld B dL_law_461 ?_
      refine ww_aload_n hX 0 rfl dL_law_462 rfl ?_
      refine ww_iload_n hX 3 rfl dL_law_463 rfl ?_
      refine ww_iconst (v := 3) hX rfl dL_law_464 ?_
      refine ww_iadd hX dL_law_465 ?_
      refine ww_pc (b := 466) rfl ?_
      refine ww_sld B dL_law_466 ?_
      refine ww_callVI (As := [.int (xs (ix (x3 + 1))), .int (xs (ix (x3 + 2))), .int (xs (ix (x3 + 3)))]) (rest := []) (o := x1) hX (B.rk (by decide) (by decide)) g_L_54 g_L_54.in (fun _ => c_X11_play (x_G X) (x_l X) fu x1 (xs (ix (x3 + 1))) (xs (ix (x3 + 2))) (xs (ix (x3 + 3))) st) rfl rfl (Nat.le_of_ble_eq_true rfl) dL_law_467 (fun r39 s40 => ?_)
      refine ww_aload_n hX 2 rfl dL_law_470 rfl ?_
      refine ww_aload_n hX 0 rfl dL_law_471 rfl ?_
      refine ww_iload_n hX 3 rfl dL_law_472 rfl ?_
      refine ww_iconst (v := 1) hX rfl dL_law_473 ?_
      refine ww_iadd hX dL_law_474 ?_
      refine ww_sld B dL_law_475 ?_
      refine ww_pc (b := 476) rfl ?_
      refine ww_aload_n hX 0 rfl dL_law_476 rfl ?_
      refine ww_iload_n hX 3 rfl dL_law_477 rfl ?_
      refine ww_iconst (v := 2) hX rfl dL_law_478 ?_
      refine ww_iadd hX dL_law_479 ?_
      refine ww_sld B dL_law_480 ?_
      refine ww_aload_n hX 0 rfl dL_law_481 rfl ?_
      refine ww_iload_n hX 3 rfl dL_law_482 rfl ?_
      refine ww_iconst (v := 3) hX rfl dL_law_483 ?_
      refine ww_pc (b := 484) rfl ?_
      refine ww_iadd hX dL_law_484 ?_
      refine ww_sld B dL_law_485 ?_
      refine ww_callVI (As := [.int (xs (ix (x3 + 1))), .int (xs (ix (x3 + 2))), .int (xs (ix (x3 + 3)))]) (rest := [.int r39]) (o := x2) hX (B.rk (by decide) (by decide)) g_L_58 g_L_58.in (fun _ => c_X12_play (x_G X) (x_l X) fu x2 (xs (ix (x3 + 1))) (xs (ix (x3 + 2))) (xs (ix (x3 + 3))) s40) rfl rfl (Nat.le_of_ble_eq_true rfl) dL_law_486 (fun r41 s42 => ?_)
      refine ww_icmp_eq (tgt := 1488) hX dL_law_489 (by decide) ?_ ?_
      · exact t_L_law_1488 fu xs L B k_18 h_18 x0 x1 x2 x3  s42
      · refine ww_iconst (v := 0) hX rfl dL_law_492 ?_
        exact ww_lawret B dL_law_493
    refine ww_if (fun c33_10 => ?_) (fun c33_10 => ?_)
    · refine ww_tsw (off := 461) (tgt := 494) hX dL_law_33 (by rw [c33_10]; decide) (by rw [c33_10]; decide) (by rw [c33_10]; rfl) (by decide) ?_
      refine ww_aload_n hX 1 rfl dL_law_494 rfl ?_
      refine ww_aload_n hX 0 rfl dL_law_495 rfl ?_
      refine ww_iload_n hX 3 rfl dL_law_496 rfl ?_
      refine ww_iconst (v := 1) hX rfl dL_law_497 ?_
      refine ww_iadd hX dL_law_498 ?_
      refine ww_sld B dL_law_499 ?_
      refine ww_aload_n hX 0 rfl dL_law_500 rfl ?_
      refine ww_pc (b := 501) rfl ?_
      refine ww_iload_n hX 3 rfl dL_law_501 rfl ?_
      refine ww_iconst (v := 2) hX rfl dL_law_502 ?_
      refine ww_iadd hX dL_law_503 ?_
      refine ww_sld B dL_law_504 ?_
      refine ww_callVI (As := [.int (xs (ix (x3 + 1))), .int (xs (ix (x3 + 2)))]) (rest := []) (o := x1) hX (B.rk (by decide) (by decide)) g_L_59 g_L_59.in (fun _ => c_X11_of (x_G X) (x_l X) fu x1 (xs (ix (x3 + 1))) (xs (ix (x3 + 2))) st) rfl rfl (Nat.le_of_ble_eq_true rfl) dL_law_505 (fun r43 s44 => ?_)
      refine ww_aload_n hX 2 rfl dL_law_508 rfl ?_
      refine ww_aload_n hX 0 rfl dL_law_509 rfl ?_
      refine ww_iload_n hX 3 rfl dL_law_510 rfl ?_
      refine ww_pc (b := 511) rfl ?_
      refine ww_iconst (v := 1) hX rfl dL_law_511 ?_
      refine ww_iadd hX dL_law_512 ?_
      refine ww_sld B dL_law_513 ?_
      refine ww_aload_n hX 0 rfl dL_law_514 rfl ?_
      refine ww_iload_n hX 3 rfl dL_law_515 rfl ?_
      refine ww_iconst (v := 2) hX rfl dL_law_516 ?_
      refine ww_iadd hX dL_law_517 ?_
      refine ww_sld B dL_law_518 ?_
      refine ww_pc (b := 519) rfl ?_
      refine ww_callVI (As := [.int (xs (ix (x3 + 1))), .int (xs (ix (x3 + 2)))]) (rest := [.int r43]) (o := x2) hX (B.rk (by decide) (by decide)) g_L_63 g_L_63.in (fun _ => c_X12_of (x_G X) (x_l X) fu x2 (xs (ix (x3 + 1))) (xs (ix (x3 + 2))) s44) rfl rfl (Nat.le_of_ble_eq_true rfl) dL_law_519 (fun r45 s46 => ?_)
      refine ww_icmp_eq (tgt := 1488) hX dL_law_522 (by decide) ?_ ?_
      · exact t_L_law_1488 fu xs L B k_18 h_18 x0 x1 x2 x3  s46
      · refine ww_iconst (v := 0) hX rfl dL_law_525 ?_
        exact ww_lawret B dL_law_526
    refine ww_if (fun c33_11 => ?_) (fun c33_11 => ?_)
    · refine ww_tsw (off := 494) (tgt := 527) hX dL_law_33 (by rw [c33_11]; decide) (by rw [c33_11]; decide) (by rw [c33_11]; rfl) (by decide) ?_
      refine ww_aload_n hX 1 rfl dL_law_527 rfl ?_
      refine ww_aload_n hX 0 rfl dL_law_528 rfl ?_
      refine ww_iload_n hX 3 rfl dL_law_529 rfl ?_
      refine ww_iconst (v := 1) hX rfl dL_law_530 ?_
      refine ww_iadd hX dL_law_531 ?_
      refine ww_sld B dL_law_532 ?_
      refine ww_aload_n hX 0 rfl dL_law_533 rfl ?_
      refine ww_pc (b := 534) rfl ?_
      refine ww_iload_n hX 3 rfl dL_law_534 rfl ?_
      refine ww_iconst (v := 2) hX rfl dL_law_535 ?_
      refine ww_iadd hX dL_law_536 ?_
      refine ww_sld B dL_law_537 ?_
      refine ww_callVI (As := [.int (xs (ix (x3 + 1))), .int (xs (ix (x3 + 2)))]) (rest := []) (o := x1) hX (B.rk (by decide) (by decide)) g_L_64 g_L_64.in (fun _ => c_X11_level (x_G X) (x_l X) fu x1 (xs (ix (x3 + 1))) (xs (ix (x3 + 2))) st) rfl rfl (Nat.le_of_ble_eq_true rfl) dL_law_538 (fun r47 s48 => ?_)
      refine ww_aload_n hX 2 rfl dL_law_541 rfl ?_
      refine ww_aload_n hX 0 rfl dL_law_542 rfl ?_
      refine ww_iload_n hX 3 rfl dL_law_543 rfl ?_
      refine ww_pc (b := 544) rfl ?_
      refine ww_iconst (v := 1) hX rfl dL_law_544 ?_
      refine ww_iadd hX dL_law_545 ?_
      refine ww_sld B dL_law_546 ?_
      refine ww_aload_n hX 0 rfl dL_law_547 rfl ?_
      refine ww_iload_n hX 3 rfl dL_law_548 rfl ?_
      refine ww_iconst (v := 2) hX rfl dL_law_549 ?_
      refine ww_iadd hX dL_law_550 ?_
      refine ww_sld B dL_law_551 ?_
      refine ww_pc (b := 552) rfl ?_
      refine ww_callVI (As := [.int (xs (ix (x3 + 1))), .int (xs (ix (x3 + 2)))]) (rest := [.int r47]) (o := x2) hX (B.rk (by decide) (by decide)) g_L_67 g_L_67.in (fun _ => c_X12_level (x_G X) (x_l X) fu x2 (xs (ix (x3 + 1))) (xs (ix (x3 + 2))) s48) rfl rfl (Nat.le_of_ble_eq_true rfl) dL_law_552 (fun r49 s50 => ?_)
      refine ww_icmp_eq (tgt := 1488) hX dL_law_555 (by decide) ?_ ?_
      · exact t_L_law_1488 fu xs L B k_18 h_18 x0 x1 x2 x3  s50
      · refine ww_iconst (v := 0) hX rfl dL_law_558 ?_
        exact ww_lawret B dL_law_559
    refine ww_if (fun c33_12 => ?_) (fun c33_12 => ?_)
    · refine ww_tsw (off := 527) (tgt := 560) hX dL_law_33 (by rw [c33_12]; decide) (by rw [c33_12]; decide) (by rw [c33_12]; rfl) (by decide) ?_
      refine ww_aload_n hX 1 rfl dL_law_560 rfl ?_
      refine ww_aload_n hX 0 rfl dL_law_561 rfl ?_
      refine ww_iload_n hX 3 rfl dL_law_562 rfl ?_
      refine ww_iconst (v := 1) hX rfl dL_law_563 ?_
      refine ww_iadd hX dL_law_564 ?_
      refine ww_sld B dL_law_565 ?_
      refine ww_callVI (As := [.int (xs (ix (x3 + 1)))]) (rest := []) (o := x1) hX (B.rk (by decide) (by decide)) g_L_68 g_L_68.in (fun _ => c_X11_out (x_G X) (x_l X) fu x1 (xs (ix (x3 + 1))) st) rfl rfl (Nat.le_of_ble_eq_true rfl) dL_law_566 (fun r51 s52 => ?_)
      refine ww_pc (b := 569) rfl ?_
      refine ww_aload_n hX 2 rfl dL_law_569 rfl ?_
      refine ww_aload_n hX 0 rfl dL_law_570 rfl ?_
      refine ww_iload_n hX 3 rfl dL_law_571 rfl ?_
      refine ww_iconst (v := 1) hX rfl dL_law_572 ?_
      refine ww_iadd hX dL_law_573 ?_
      refine ww_sld B dL_law_574 ?_
      refine ww_callVI (As := [.int (xs (ix (x3 + 1)))]) (rest := [.int r51]) (o := x2) hX (B.rk (by decide) (by decide)) g_L_71 g_L_71.in (fun _ => c_X12_out (x_G X) (x_l X) fu x2 (xs (ix (x3 + 1))) s52) rfl rfl (Nat.le_of_ble_eq_true rfl) dL_law_575 (fun r53 s54 => ?_)
      refine ww_icmp_eq (tgt := 1488) hX dL_law_578 (by decide) ?_ ?_
      · exact t_L_law_1488 fu xs L B k_18 h_18 x0 x1 x2 x3  s54
      · refine ww_iconst (v := 0) hX rfl dL_law_581 ?_
        exact ww_lawret B dL_law_582
    refine ww_if (fun c33_13 => ?_) (fun c33_13 => ?_)
    · refine ww_tsw (off := 550) (tgt := 583) hX dL_law_33 (by rw [c33_13]; decide) (by rw [c33_13]; decide) (by rw [c33_13]; rfl) (by decide) ?_
      refine ww_aload_n hX 1 rfl dL_law_583 rfl ?_
      refine ww_aload_n hX 0 rfl dL_law_584 rfl ?_
      refine ww_iload_n hX 3 rfl dL_law_585 rfl ?_
      refine ww_iconst (v := 1) hX rfl dL_law_586 ?_
      refine ww_iadd hX dL_law_587 ?_
      refine ww_sld B dL_law_588 ?_
      refine ww_aload_n hX 0 rfl dL_law_589 rfl ?_
      refine ww_pc (b := 590) rfl ?_
      refine ww_iload_n hX 3 rfl dL_law_590 rfl ?_
      refine ww_iconst (v := 2) hX rfl dL_law_591 ?_
      refine ww_iadd hX dL_law_592 ?_
      refine ww_sld B dL_law_593 ?_
      refine ww_aload_n hX 0 rfl dL_law_594 rfl ?_
      refine ww_iload_n hX 3 rfl dL_law_595 rfl ?_
      refine ww_iconst (v := 3) hX rfl dL_law_596 ?_
      refine ww_iadd hX dL_law_597 ?_
      refine ww_pc (b := 598) rfl ?_
      refine ww_sld B dL_law_598 ?_
      refine ww_callVI (As := [.int (xs (ix (x3 + 1))), .int (xs (ix (x3 + 2))), .int (xs (ix (x3 + 3)))]) (rest := []) (o := x1) hX (B.rk (by decide) (by decide)) g_L_72 g_L_72.in (fun _ => c_X11_patch (x_G X) (x_l X) fu x1 (xs (ix (x3 + 1))) (xs (ix (x3 + 2))) (xs (ix (x3 + 3))) st) rfl rfl (Nat.le_of_ble_eq_true rfl) dL_law_599 (fun r55 s56 => ?_)
      refine ww_aload_n hX 2 rfl dL_law_602 rfl ?_
      refine ww_aload_n hX 0 rfl dL_law_603 rfl ?_
      refine ww_iload_n hX 3 rfl dL_law_604 rfl ?_
      refine ww_iconst (v := 1) hX rfl dL_law_605 ?_
      refine ww_iadd hX dL_law_606 ?_
      refine ww_sld B dL_law_607 ?_
      refine ww_pc (b := 608) rfl ?_
      refine ww_aload_n hX 0 rfl dL_law_608 rfl ?_
      refine ww_iload_n hX 3 rfl dL_law_609 rfl ?_
      refine ww_iconst (v := 2) hX rfl dL_law_610 ?_
      refine ww_iadd hX dL_law_611 ?_
      refine ww_sld B dL_law_612 ?_
      refine ww_aload_n hX 0 rfl dL_law_613 rfl ?_
      refine ww_iload_n hX 3 rfl dL_law_614 rfl ?_
      refine ww_iconst (v := 3) hX rfl dL_law_615 ?_
      refine ww_pc (b := 616) rfl ?_
      refine ww_iadd hX dL_law_616 ?_
      refine ww_sld B dL_law_617 ?_
      refine ww_callVI (As := [.int (xs (ix (x3 + 1))), .int (xs (ix (x3 + 2))), .int (xs (ix (x3 + 3)))]) (rest := [.int r55]) (o := x2) hX (B.rk (by decide) (by decide)) g_L_75 g_L_75.in (fun _ => c_X12_patch (x_G X) (x_l X) fu x2 (xs (ix (x3 + 1))) (xs (ix (x3 + 2))) (xs (ix (x3 + 3))) s56) rfl rfl (Nat.le_of_ble_eq_true rfl) dL_law_618 (fun r57 s58 => ?_)
      refine ww_icmp_eq (tgt := 1488) hX dL_law_621 (by decide) ?_ ?_
      · exact t_L_law_1488 fu xs L B k_18 h_18 x0 x1 x2 x3  s58
      · refine ww_iconst (v := 0) hX rfl dL_law_624 ?_
        exact ww_lawret B dL_law_625
    refine ww_if (fun c33_14 => ?_) (fun c33_14 => ?_)
    · refine ww_tsw (off := 593) (tgt := 626) hX dL_law_33 (by rw [c33_14]; decide) (by rw [c33_14]; decide) (by rw [c33_14]; rfl) (by decide) ?_
      refine ww_aload_n hX 1 rfl dL_law_626 rfl ?_
      refine ww_aload_n hX 0 rfl dL_law_627 rfl ?_
      refine ww_iload_n hX 3 rfl dL_law_628 rfl ?_
      refine ww_iconst (v := 1) hX rfl dL_law_629 ?_
      refine ww_iadd hX dL_law_630 ?_
      refine ww_sld B dL_law_631 ?_
      refine ww_callVI (As := [.int (xs (ix (x3 + 1)))]) (rest := []) (o := x1) hX (B.rk (by decide) (by decide)) g_L_76 g_L_76.in (fun _ => c_X11_grand (x_G X) (x_l X) fu x1 (xs (ix (x3 + 1))) st) rfl rfl (Nat.le_of_ble_eq_true rfl) dL_law_632 (fun r59 s60 => ?_)
      refine ww_pc (b := 635) rfl ?_
      refine ww_aload_n hX 2 rfl dL_law_635 rfl ?_
      refine ww_aload_n hX 0 rfl dL_law_636 rfl ?_
      refine ww_iload_n hX 3 rfl dL_law_637 rfl ?_
      refine ww_iconst (v := 1) hX rfl dL_law_638 ?_
      refine ww_iadd hX dL_law_639 ?_
      refine ww_sld B dL_law_640 ?_
      refine ww_callVI (As := [.int (xs (ix (x3 + 1)))]) (rest := [.int r59]) (o := x2) hX (B.rk (by decide) (by decide)) g_L_79 g_L_79.in (fun _ => c_X12_grand (x_G X) (x_l X) fu x2 (xs (ix (x3 + 1))) s60) rfl rfl (Nat.le_of_ble_eq_true rfl) dL_law_641 (fun r61 s62 => ?_)
      refine ww_icmp_eq (tgt := 1488) hX dL_law_644 (by decide) ?_ ?_
      · exact t_L_law_1488 fu xs L B k_18 h_18 x0 x1 x2 x3  s62
      · refine ww_iconst (v := 0) hX rfl dL_law_647 ?_
        exact ww_lawret B dL_law_648
    refine ww_if (fun c33_15 => ?_) (fun c33_15 => ?_)
    · refine ww_tsw (off := 616) (tgt := 649) hX dL_law_33 (by rw [c33_15]; decide) (by rw [c33_15]; decide) (by rw [c33_15]; rfl) (by decide) ?_
      refine ww_aload_n hX 1 rfl dL_law_649 rfl ?_
      refine ww_aload_n hX 0 rfl dL_law_650 rfl ?_
      refine ww_iload_n hX 3 rfl dL_law_651 rfl ?_
      refine ww_iconst (v := 1) hX rfl dL_law_652 ?_
      refine ww_iadd hX dL_law_653 ?_
      refine ww_sld B dL_law_654 ?_
      refine ww_callVI (As := [.int (xs (ix (x3 + 1)))]) (rest := []) (o := x1) hX (B.rk (by decide) (by decide)) g_L_80 g_L_80.in (fun _ => c_X11_wire (x_G X) (x_l X) fu x1 (xs (ix (x3 + 1))) st) rfl rfl (Nat.le_of_ble_eq_true rfl) dL_law_655 (fun r63 s64 => ?_)
      refine ww_pc (b := 658) rfl ?_
      refine ww_aload_n hX 2 rfl dL_law_658 rfl ?_
      refine ww_aload_n hX 0 rfl dL_law_659 rfl ?_
      refine ww_iload_n hX 3 rfl dL_law_660 rfl ?_
      refine ww_iconst (v := 1) hX rfl dL_law_661 ?_
      refine ww_iadd hX dL_law_662 ?_
      refine ww_sld B dL_law_663 ?_
      refine ww_callVI (As := [.int (xs (ix (x3 + 1)))]) (rest := [.int r63]) (o := x2) hX (B.rk (by decide) (by decide)) g_L_83 g_L_83.in (fun _ => c_X12_wire (x_G X) (x_l X) fu x2 (xs (ix (x3 + 1))) s64) rfl rfl (Nat.le_of_ble_eq_true rfl) dL_law_664 (fun r65 s66 => ?_)
      refine ww_icmp_eq (tgt := 1488) hX dL_law_667 (by decide) ?_ ?_
      · exact t_L_law_1488 fu xs L B k_18 h_18 x0 x1 x2 x3  s66
      · refine ww_iconst (v := 0) hX rfl dL_law_670 ?_
        exact ww_lawret B dL_law_671
    refine ww_if (fun c33_16 => ?_) (fun c33_16 => ?_)
    · refine ww_tsw (off := 639) (tgt := 672) hX dL_law_33 (by rw [c33_16]; decide) (by rw [c33_16]; decide) (by rw [c33_16]; rfl) (by decide) ?_
      refine ww_aload_n hX 1 rfl dL_law_672 rfl ?_
      refine ww_aload_n hX 0 rfl dL_law_673 rfl ?_
      refine ww_iload_n hX 3 rfl dL_law_674 rfl ?_
      refine ww_iconst (v := 1) hX rfl dL_law_675 ?_
      refine ww_iadd hX dL_law_676 ?_
      refine ww_sld B dL_law_677 ?_
      refine ww_aload_n hX 0 rfl dL_law_678 rfl ?_
      refine ww_pc (b := 679) rfl ?_
      refine ww_iload_n hX 3 rfl dL_law_679 rfl ?_
      refine ww_iconst (v := 2) hX rfl dL_law_680 ?_
      refine ww_iadd hX dL_law_681 ?_
      refine ww_sld B dL_law_682 ?_
      refine ww_aload_n hX 0 rfl dL_law_683 rfl ?_
      refine ww_iload_n hX 3 rfl dL_law_684 rfl ?_
      refine ww_iconst (v := 3) hX rfl dL_law_685 ?_
      refine ww_iadd hX dL_law_686 ?_
      refine ww_pc (b := 687) rfl ?_
      refine ww_sld B dL_law_687 ?_
      refine ww_aload_n hX 0 rfl dL_law_688 rfl ?_
      refine ww_iload_n hX 3 rfl dL_law_689 rfl ?_
      refine ww_iconst (v := 4) hX rfl dL_law_690 ?_
      refine ww_iadd hX dL_law_691 ?_
      refine ww_sld B dL_law_692 ?_
      refine ww_aload_n hX 0 rfl dL_law_693 rfl ?_
      refine ww_iload_n hX 3 rfl dL_law_694 rfl ?_
      refine ww_pc (b := 695) rfl ?_
      refine ww_iconst (v := 5) hX rfl dL_law_695 ?_
      refine ww_iadd hX dL_law_696 ?_
      refine ww_sld B dL_law_697 ?_
      refine ww_callVI (As := [.int (xs (ix (x3 + 1))), .int (xs (ix (x3 + 2))), .int (xs (ix (x3 + 3))), .int (xs (ix (x3 + 4))), .int (xs (ix (x3 + 5)))]) (rest := []) (o := x1) hX (B.rk (by decide) (by decide)) g_L_84 g_L_84.in (fun _ => c_X11_axis (x_G X) (x_l X) fu x1 (xs (ix (x3 + 1))) (xs (ix (x3 + 2))) (xs (ix (x3 + 3))) (xs (ix (x3 + 4))) (xs (ix (x3 + 5))) st) rfl rfl (Nat.le_of_ble_eq_true rfl) dL_law_698 (fun r67 s68 => ?_)
      refine ww_aload_n hX 2 rfl dL_law_701 rfl ?_
      refine ww_aload_n hX 0 rfl dL_law_702 rfl ?_
      refine ww_iload_n hX 3 rfl dL_law_703 rfl ?_
      refine ww_iconst (v := 1) hX rfl dL_law_704 ?_
      refine ww_pc (b := 705) rfl ?_
      refine ww_iadd hX dL_law_705 ?_
      refine ww_sld B dL_law_706 ?_
      refine ww_aload_n hX 0 rfl dL_law_707 rfl ?_
      refine ww_iload_n hX 3 rfl dL_law_708 rfl ?_
      refine ww_iconst (v := 2) hX rfl dL_law_709 ?_
      refine ww_iadd hX dL_law_710 ?_
      refine ww_sld B dL_law_711 ?_
      refine ww_aload_n hX 0 rfl dL_law_712 rfl ?_
      refine ww_pc (b := 713) rfl ?_
      refine ww_iload_n hX 3 rfl dL_law_713 rfl ?_
      refine ww_iconst (v := 3) hX rfl dL_law_714 ?_
      refine ww_iadd hX dL_law_715 ?_
      refine ww_sld B dL_law_716 ?_
      refine ww_aload_n hX 0 rfl dL_law_717 rfl ?_
      refine ww_iload_n hX 3 rfl dL_law_718 rfl ?_
      refine ww_iconst (v := 4) hX rfl dL_law_719 ?_
      refine ww_iadd hX dL_law_720 ?_
      refine ww_pc (b := 721) rfl ?_
      refine ww_sld B dL_law_721 ?_
      refine ww_aload_n hX 0 rfl dL_law_722 rfl ?_
      refine ww_iload_n hX 3 rfl dL_law_723 rfl ?_
      refine ww_iconst (v := 5) hX rfl dL_law_724 ?_
      refine ww_iadd hX dL_law_725 ?_
      refine ww_sld B dL_law_726 ?_
      refine ww_callVI (As := [.int (xs (ix (x3 + 1))), .int (xs (ix (x3 + 2))), .int (xs (ix (x3 + 3))), .int (xs (ix (x3 + 4))), .int (xs (ix (x3 + 5)))]) (rest := [.int r67]) (o := x2) hX (B.rk (by decide) (by decide)) g_L_88 g_L_88.in (fun _ => c_X12_axis (x_G X) (x_l X) fu x2 (xs (ix (x3 + 1))) (xs (ix (x3 + 2))) (xs (ix (x3 + 3))) (xs (ix (x3 + 4))) (xs (ix (x3 + 5))) s68) rfl rfl (Nat.le_of_ble_eq_true rfl) dL_law_727 (fun r69 s70 => ?_)
      refine ww_icmp_eq (tgt := 1488) hX dL_law_730 (by decide) ?_ ?_
      · exact t_L_law_1488 fu xs L B k_18 h_18 x0 x1 x2 x3  s70
      · refine ww_iconst (v := 0) hX rfl dL_law_733 ?_
        exact ww_lawret B dL_law_734
    refine ww_if (fun c33_17 => ?_) (fun c33_17 => ?_)
    · refine ww_tsw (off := 702) (tgt := 735) hX dL_law_33 (by rw [c33_17]; decide) (by rw [c33_17]; decide) (by rw [c33_17]; rfl) (by decide) ?_
      refine ww_aload_n hX 1 rfl dL_law_735 rfl ?_
      refine ww_aload_n hX 0 rfl dL_law_736 rfl ?_
      refine ww_iload_n hX 3 rfl dL_law_737 rfl ?_
      refine ww_iconst (v := 1) hX rfl dL_law_738 ?_
      refine ww_iadd hX dL_law_739 ?_
      refine ww_sld B dL_law_740 ?_
      refine ww_aload_n hX 0 rfl dL_law_741 rfl ?_
      refine ww_pc (b := 742) rfl ?_
      refine ww_iload_n hX 3 rfl dL_law_742 rfl ?_
      refine ww_iconst (v := 2) hX rfl dL_law_743 ?_
      refine ww_iadd hX dL_law_744 ?_
      refine ww_sld B dL_law_745 ?_
      refine ww_callVI (As := [.int (xs (ix (x3 + 1))), .int (xs (ix (x3 + 2)))]) (rest := []) (o := x1) hX (B.rk (by decide) (by decide)) g_L_89 g_L_89.in (fun _ => c_X11_to (x_G X) (x_l X) fu x1 (xs (ix (x3 + 1))) (xs (ix (x3 + 2))) st) rfl rfl (Nat.le_of_ble_eq_true rfl) dL_law_746 (fun r71 s72 => ?_)
      refine ww_aload_n hX 2 rfl dL_law_749 rfl ?_
      refine ww_aload_n hX 0 rfl dL_law_750 rfl ?_
      refine ww_iload_n hX 3 rfl dL_law_751 rfl ?_
      refine ww_pc (b := 752) rfl ?_
      refine ww_iconst (v := 1) hX rfl dL_law_752 ?_
      refine ww_iadd hX dL_law_753 ?_
      refine ww_sld B dL_law_754 ?_
      refine ww_aload_n hX 0 rfl dL_law_755 rfl ?_
      refine ww_iload_n hX 3 rfl dL_law_756 rfl ?_
      refine ww_iconst (v := 2) hX rfl dL_law_757 ?_
      refine ww_iadd hX dL_law_758 ?_
      refine ww_sld B dL_law_759 ?_
      refine ww_pc (b := 760) rfl ?_
      refine ww_callVI (As := [.int (xs (ix (x3 + 1))), .int (xs (ix (x3 + 2)))]) (rest := [.int r71]) (o := x2) hX (B.rk (by decide) (by decide)) g_L_93 g_L_93.in (fun _ => c_X12_to (x_G X) (x_l X) fu x2 (xs (ix (x3 + 1))) (xs (ix (x3 + 2))) s72) rfl rfl (Nat.le_of_ble_eq_true rfl) dL_law_760 (fun r73 s74 => ?_)
      refine ww_icmp_eq (tgt := 1488) hX dL_law_763 (by decide) ?_ ?_
      · exact t_L_law_1488 fu xs L B k_18 h_18 x0 x1 x2 x3  s74
      · refine ww_iconst (v := 0) hX rfl dL_law_766 ?_
        exact ww_lawret B dL_law_767
    refine ww_if (fun c33_18 => ?_) (fun c33_18 => ?_)
    · refine ww_tsw (off := 735) (tgt := 768) hX dL_law_33 (by rw [c33_18]; decide) (by rw [c33_18]; decide) (by rw [c33_18]; rfl) (by decide) ?_
      refine ww_aload_n hX 1 rfl dL_law_768 rfl ?_
      refine ww_aload_n hX 0 rfl dL_law_769 rfl ?_
      refine ww_iload_n hX 3 rfl dL_law_770 rfl ?_
      refine ww_iconst (v := 1) hX rfl dL_law_771 ?_
      refine ww_iadd hX dL_law_772 ?_
      refine ww_sld B dL_law_773 ?_
      refine ww_aload_n hX 0 rfl dL_law_774 rfl ?_
      refine ww_pc (b := 775) rfl ?_
      refine ww_iload_n hX 3 rfl dL_law_775 rfl ?_
      refine ww_iconst (v := 2) hX rfl dL_law_776 ?_
      refine ww_iadd hX dL_law_777 ?_
      refine ww_sld B dL_law_778 ?_
      refine ww_callVI (As := [.int (xs (ix (x3 + 1))), .int (xs (ix (x3 + 2)))]) (rest := []) (o := x1) hX (B.rk (by decide) (by decide)) g_L_94 g_L_94.in (fun _ => c_X11_axisAt (x_G X) (x_l X) fu x1 (xs (ix (x3 + 1))) (xs (ix (x3 + 2))) st) rfl rfl (Nat.le_of_ble_eq_true rfl) dL_law_779 (fun r75 s76 => ?_)
      refine ww_aload_n hX 2 rfl dL_law_782 rfl ?_
      refine ww_aload_n hX 0 rfl dL_law_783 rfl ?_
      refine ww_iload_n hX 3 rfl dL_law_784 rfl ?_
      refine ww_pc (b := 785) rfl ?_
      refine ww_iconst (v := 1) hX rfl dL_law_785 ?_
      refine ww_iadd hX dL_law_786 ?_
      refine ww_sld B dL_law_787 ?_
      refine ww_aload_n hX 0 rfl dL_law_788 rfl ?_
      refine ww_iload_n hX 3 rfl dL_law_789 rfl ?_
      refine ww_iconst (v := 2) hX rfl dL_law_790 ?_
      refine ww_iadd hX dL_law_791 ?_
      refine ww_sld B dL_law_792 ?_
      refine ww_pc (b := 793) rfl ?_
      refine ww_callVI (As := [.int (xs (ix (x3 + 1))), .int (xs (ix (x3 + 2)))]) (rest := [.int r75]) (o := x2) hX (B.rk (by decide) (by decide)) g_L_97 g_L_97.in (fun _ => c_X12_axisAt (x_G X) (x_l X) fu x2 (xs (ix (x3 + 1))) (xs (ix (x3 + 2))) s76) rfl rfl (Nat.le_of_ble_eq_true rfl) dL_law_793 (fun r77 s78 => ?_)
      refine ww_icmp_eq (tgt := 1488) hX dL_law_796 (by decide) ?_ ?_
      · exact t_L_law_1488 fu xs L B k_18 h_18 x0 x1 x2 x3  s78
      · refine ww_iconst (v := 0) hX rfl dL_law_799 ?_
        exact ww_lawret B dL_law_800
    refine ww_if (fun c33_19 => ?_) (fun c33_19 => ?_)
    · refine ww_tsw (off := 768) (tgt := 801) hX dL_law_33 (by rw [c33_19]; decide) (by rw [c33_19]; decide) (by rw [c33_19]; rfl) (by decide) ?_
      refine ww_aload_n hX 1 rfl dL_law_801 rfl ?_
      refine ww_aload_n hX 0 rfl dL_law_802 rfl ?_
      refine ww_iload_n hX 3 rfl dL_law_803 rfl ?_
      refine ww_iconst (v := 1) hX rfl dL_law_804 ?_
      refine ww_iadd hX dL_law_805 ?_
      refine ww_sld B dL_law_806 ?_
      refine ww_aload_n hX 0 rfl dL_law_807 rfl ?_
      refine ww_pc (b := 808) rfl ?_
      refine ww_iload_n hX 3 rfl dL_law_808 rfl ?_
      refine ww_iconst (v := 2) hX rfl dL_law_809 ?_
      refine ww_iadd hX dL_law_810 ?_
      refine ww_sld B dL_law_811 ?_
      refine ww_callVI (As := [.int (xs (ix (x3 + 1))), .int (xs (ix (x3 + 2)))]) (rest := []) (o := x1) hX (B.rk (by decide) (by decide)) g_L_98 g_L_98.in (fun _ => c_X11_faults (x_G X) (x_l X) fu x1 (xs (ix (x3 + 1))) (xs (ix (x3 + 2))) st) rfl rfl (Nat.le_of_ble_eq_true rfl) dL_law_812 (fun r79 s80 => ?_)
      refine ww_aload_n hX 2 rfl dL_law_815 rfl ?_
      refine ww_aload_n hX 0 rfl dL_law_816 rfl ?_
      refine ww_iload_n hX 3 rfl dL_law_817 rfl ?_
      refine ww_pc (b := 818) rfl ?_
      refine ww_iconst (v := 1) hX rfl dL_law_818 ?_
      refine ww_iadd hX dL_law_819 ?_
      refine ww_sld B dL_law_820 ?_
      refine ww_aload_n hX 0 rfl dL_law_821 rfl ?_
      refine ww_iload_n hX 3 rfl dL_law_822 rfl ?_
      refine ww_iconst (v := 2) hX rfl dL_law_823 ?_
      refine ww_iadd hX dL_law_824 ?_
      refine ww_sld B dL_law_825 ?_
      refine ww_pc (b := 826) rfl ?_
      refine ww_callVI (As := [.int (xs (ix (x3 + 1))), .int (xs (ix (x3 + 2)))]) (rest := [.int r79]) (o := x2) hX (B.rk (by decide) (by decide)) g_L_101 g_L_101.in (fun _ => c_X12_faults (x_G X) (x_l X) fu x2 (xs (ix (x3 + 1))) (xs (ix (x3 + 2))) s80) rfl rfl (Nat.le_of_ble_eq_true rfl) dL_law_826 (fun r81 s82 => ?_)
      refine ww_icmp_eq (tgt := 1488) hX dL_law_829 (by decide) ?_ ?_
      · exact t_L_law_1488 fu xs L B k_18 h_18 x0 x1 x2 x3  s82
      · refine ww_iconst (v := 0) hX rfl dL_law_832 ?_
        exact ww_lawret B dL_law_833
    refine ww_if (fun c33_20 => ?_) (fun c33_20 => ?_)
    · refine ww_tsw (off := 801) (tgt := 834) hX dL_law_33 (by rw [c33_20]; decide) (by rw [c33_20]; decide) (by rw [c33_20]; rfl) (by decide) ?_
      refine ww_aload_n hX 1 rfl dL_law_834 rfl ?_
      refine ww_aload_n hX 0 rfl dL_law_835 rfl ?_
      refine ww_iload_n hX 3 rfl dL_law_836 rfl ?_
      refine ww_iconst (v := 1) hX rfl dL_law_837 ?_
      refine ww_iadd hX dL_law_838 ?_
      refine ww_sld B dL_law_839 ?_
      refine ww_if_eq (tgt := 847) hX dL_law_840 (by decide) ?_ ?_
      · refine ww_iconst (v := 0) hX rfl dL_law_847 ?_
        exact t_L_law_848 fu xs L B k_18 h_18 x0 x1 x2 x3 x1 0 st
      · refine ww_iconst (v := 1) hX rfl dL_law_843 ?_
        refine ww_goto (tgt := 848) hX dL_law_844 (by decide) ?_
        exact t_L_law_848 fu xs L B k_18 h_18 x0 x1 x2 x3 x1 1 st
    refine ww_if (fun c33_21 => ?_) (fun c33_21 => ?_)
    · refine ww_tsw (off := 838) (tgt := 871) hX dL_law_33 (by rw [c33_21]; decide) (by rw [c33_21]; decide) (by rw [c33_21]; rfl) (by decide) ?_
      refine ww_aload_n hX 1 rfl dL_law_871 rfl ?_
      refine ww_aload_n hX 0 rfl dL_law_872 rfl ?_
      refine ww_iload_n hX 3 rfl dL_law_873 rfl ?_
      refine ww_iconst (v := 1) hX rfl dL_law_874 ?_
      refine ww_iadd hX dL_law_875 ?_
      refine ww_sld B dL_law_876 ?_
      refine ww_aload_n hX 0 rfl dL_law_877 rfl ?_
      refine ww_pc (b := 878) rfl ?_
      refine ww_iload_n hX 3 rfl dL_law_878 rfl ?_
      refine ww_iconst (v := 2) hX rfl dL_law_879 ?_
      refine ww_iadd hX dL_law_880 ?_
      refine ww_sld B dL_law_881 ?_
      refine ww_if_eq (tgt := 889) hX dL_law_882 (by decide) ?_ ?_
      · refine ww_iconst (v := 0) hX rfl dL_law_889 ?_
        exact t_L_law_890 fu xs L B k_18 h_18 x0 x1 x2 x3 x1 (xs (ix (x3 + 1))) 0 st
      · refine ww_iconst (v := 1) hX rfl dL_law_885 ?_
        refine ww_goto (tgt := 890) hX dL_law_886 (by decide) ?_
        exact t_L_law_890 fu xs L B k_18 h_18 x0 x1 x2 x3 x1 (xs (ix (x3 + 1))) 1 st
    refine ww_if (fun c33_22 => ?_) (fun c33_22 => ?_)
    · refine ww_tsw (off := 887) (tgt := 920) hX dL_law_33 (by rw [c33_22]; decide) (by rw [c33_22]; decide) (by rw [c33_22]; rfl) (by decide) ?_
      refine ww_aload_n hX 1 rfl dL_law_920 rfl ?_
      refine ww_aload_n hX 0 rfl dL_law_921 rfl ?_
      refine ww_iload_n hX 3 rfl dL_law_922 rfl ?_
      refine ww_iconst (v := 1) hX rfl dL_law_923 ?_
      refine ww_iadd hX dL_law_924 ?_
      refine ww_sld B dL_law_925 ?_
      refine ww_callVI (As := [.int (xs (ix (x3 + 1)))]) (rest := []) (o := x1) hX (B.rk (by decide) (by decide)) g_L_112 g_L_112.in (fun _ => c_X11_tick (x_G X) (x_l X) fu x1 (xs (ix (x3 + 1))) st) rfl rfl (Nat.le_of_ble_eq_true rfl) dL_law_926 (fun r89 s90 => ?_)
      refine ww_pc (b := 929) rfl ?_
      refine ww_aload_n hX 2 rfl dL_law_929 rfl ?_
      refine ww_aload_n hX 0 rfl dL_law_930 rfl ?_
      refine ww_iload_n hX 3 rfl dL_law_931 rfl ?_
      refine ww_iconst (v := 1) hX rfl dL_law_932 ?_
      refine ww_iadd hX dL_law_933 ?_
      refine ww_sld B dL_law_934 ?_
      refine ww_callVI (As := [.int (xs (ix (x3 + 1)))]) (rest := [.int r89]) (o := x2) hX (B.rk (by decide) (by decide)) g_L_115 g_L_115.in (fun _ => c_X12_tick (x_G X) (x_l X) fu x2 (xs (ix (x3 + 1))) s90) rfl rfl (Nat.le_of_ble_eq_true rfl) dL_law_935 (fun r91 s92 => ?_)
      refine ww_icmp_eq (tgt := 1488) hX dL_law_938 (by decide) ?_ ?_
      · exact t_L_law_1488 fu xs L B k_18 h_18 x0 x1 x2 x3  s92
      · refine ww_iconst (v := 0) hX rfl dL_law_941 ?_
        exact ww_lawret B dL_law_942
    refine ww_if (fun c33_23 => ?_) (fun c33_23 => ?_)
    · refine ww_tsw (off := 910) (tgt := 943) hX dL_law_33 (by rw [c33_23]; decide) (by rw [c33_23]; decide) (by rw [c33_23]; rfl) (by decide) ?_
      refine ww_aload_n hX 1 rfl dL_law_943 rfl ?_
      refine ww_aload_n hX 0 rfl dL_law_944 rfl ?_
      refine ww_iload_n hX 3 rfl dL_law_945 rfl ?_
      refine ww_iconst (v := 1) hX rfl dL_law_946 ?_
      refine ww_iadd hX dL_law_947 ?_
      refine ww_sld B dL_law_948 ?_
      refine ww_aload_n hX 0 rfl dL_law_949 rfl ?_
      refine ww_pc (b := 950) rfl ?_
      refine ww_iload_n hX 3 rfl dL_law_950 rfl ?_
      refine ww_iconst (v := 2) hX rfl dL_law_951 ?_
      refine ww_iadd hX dL_law_952 ?_
      refine ww_sld B dL_law_953 ?_
      refine ww_callVI (As := [.int (xs (ix (x3 + 1))), .int (xs (ix (x3 + 2)))]) (rest := []) (o := x1) hX (B.rk (by decide) (by decide)) g_L_116 g_L_116.in (fun _ => c_X11_section (x_G X) (x_l X) fu x1 (xs (ix (x3 + 1))) (xs (ix (x3 + 2))) st) rfl rfl (Nat.le_of_ble_eq_true rfl) dL_law_954 (fun r93 s94 => ?_)
      refine ww_aload_n hX 2 rfl dL_law_957 rfl ?_
      refine ww_aload_n hX 0 rfl dL_law_958 rfl ?_
      refine ww_iload_n hX 3 rfl dL_law_959 rfl ?_
      refine ww_pc (b := 960) rfl ?_
      refine ww_iconst (v := 1) hX rfl dL_law_960 ?_
      refine ww_iadd hX dL_law_961 ?_
      refine ww_sld B dL_law_962 ?_
      refine ww_aload_n hX 0 rfl dL_law_963 rfl ?_
      refine ww_iload_n hX 3 rfl dL_law_964 rfl ?_
      refine ww_iconst (v := 2) hX rfl dL_law_965 ?_
      refine ww_iadd hX dL_law_966 ?_
      refine ww_sld B dL_law_967 ?_
      refine ww_pc (b := 968) rfl ?_
      refine ww_callVI (As := [.int (xs (ix (x3 + 1))), .int (xs (ix (x3 + 2)))]) (rest := [.int r93]) (o := x2) hX (B.rk (by decide) (by decide)) g_L_119 g_L_119.in (fun _ => c_X12_section (x_G X) (x_l X) fu x2 (xs (ix (x3 + 1))) (xs (ix (x3 + 2))) s94) rfl rfl (Nat.le_of_ble_eq_true rfl) dL_law_968 (fun r95 s96 => ?_)
      refine ww_icmp_eq (tgt := 1488) hX dL_law_971 (by decide) ?_ ?_
      · exact t_L_law_1488 fu xs L B k_18 h_18 x0 x1 x2 x3  s96
      · refine ww_iconst (v := 0) hX rfl dL_law_974 ?_
        exact ww_lawret B dL_law_975
    refine ww_if (fun c33_24 => ?_) (fun c33_24 => ?_)
    · refine ww_tsw (off := 943) (tgt := 976) hX dL_law_33 (by rw [c33_24]; decide) (by rw [c33_24]; decide) (by rw [c33_24]; rfl) (by decide) ?_
      refine ww_aload_n hX 1 rfl dL_law_976 rfl ?_
      refine ww_aload_n hX 0 rfl dL_law_977 rfl ?_
      refine ww_iload_n hX 3 rfl dL_law_978 rfl ?_
      refine ww_iconst (v := 1) hX rfl dL_law_979 ?_
      refine ww_iadd hX dL_law_980 ?_
      refine ww_sld B dL_law_981 ?_
      refine ww_aload_n hX 0 rfl dL_law_982 rfl ?_
      refine ww_pc (b := 983) rfl ?_
      refine ww_iload_n hX 3 rfl dL_law_983 rfl ?_
      refine ww_iconst (v := 2) hX rfl dL_law_984 ?_
      refine ww_iadd hX dL_law_985 ?_
      refine ww_sld B dL_law_986 ?_
      refine ww_aload_n hX 0 rfl dL_law_987 rfl ?_
      refine ww_iload_n hX 3 rfl dL_law_988 rfl ?_
      refine ww_iconst (v := 3) hX rfl dL_law_989 ?_
      refine ww_iadd hX dL_law_990 ?_
      refine ww_pc (b := 991) rfl ?_
      refine ww_sld B dL_law_991 ?_
      refine ww_callVI (As := [.int (xs (ix (x3 + 1))), .int (xs (ix (x3 + 2))), .int (xs (ix (x3 + 3)))]) (rest := []) (o := x1) hX (B.rk (by decide) (by decide)) g_L_120 g_L_120.in (fun _ => c_X11_row (x_G X) (x_l X) fu x1 (xs (ix (x3 + 1))) (xs (ix (x3 + 2))) (xs (ix (x3 + 3))) st) rfl rfl (Nat.le_of_ble_eq_true rfl) dL_law_992 (fun r97 s98 => ?_)
      refine ww_aload_n hX 2 rfl dL_law_995 rfl ?_
      refine ww_aload_n hX 0 rfl dL_law_996 rfl ?_
      refine ww_iload_n hX 3 rfl dL_law_997 rfl ?_
      refine ww_iconst (v := 1) hX rfl dL_law_998 ?_
      refine ww_iadd hX dL_law_999 ?_
      refine ww_sld B dL_law_1000 ?_
      refine ww_pc (b := 1001) rfl ?_
      refine ww_aload_n hX 0 rfl dL_law_1001 rfl ?_
      refine ww_iload_n hX 3 rfl dL_law_1002 rfl ?_
      refine ww_iconst (v := 2) hX rfl dL_law_1003 ?_
      refine ww_iadd hX dL_law_1004 ?_
      refine ww_sld B dL_law_1005 ?_
      refine ww_aload_n hX 0 rfl dL_law_1006 rfl ?_
      refine ww_iload_n hX 3 rfl dL_law_1007 rfl ?_
      refine ww_iconst (v := 3) hX rfl dL_law_1008 ?_
      refine ww_pc (b := 1009) rfl ?_
      refine ww_iadd hX dL_law_1009 ?_
      refine ww_sld B dL_law_1010 ?_
      refine ww_callVI (As := [.int (xs (ix (x3 + 1))), .int (xs (ix (x3 + 2))), .int (xs (ix (x3 + 3)))]) (rest := [.int r97]) (o := x2) hX (B.rk (by decide) (by decide)) g_L_123 g_L_123.in (fun _ => c_X12_row (x_G X) (x_l X) fu x2 (xs (ix (x3 + 1))) (xs (ix (x3 + 2))) (xs (ix (x3 + 3))) s98) rfl rfl (Nat.le_of_ble_eq_true rfl) dL_law_1011 (fun r99 s100 => ?_)
      refine ww_icmp_eq (tgt := 1488) hX dL_law_1014 (by decide) ?_ ?_
      · exact t_L_law_1488 fu xs L B k_18 h_18 x0 x1 x2 x3  s100
      · refine ww_iconst (v := 0) hX rfl dL_law_1017 ?_
        exact ww_lawret B dL_law_1018
    refine ww_if (fun c33_25 => ?_) (fun c33_25 => ?_)
    · refine ww_tsw (off := 986) (tgt := 1019) hX dL_law_33 (by rw [c33_25]; decide) (by rw [c33_25]; decide) (by rw [c33_25]; rfl) (by decide) ?_
      refine ww_aload_n hX 1 rfl dL_law_1019 rfl ?_
      refine ww_aload_n hX 0 rfl dL_law_1020 rfl ?_
      refine ww_iload_n hX 3 rfl dL_law_1021 rfl ?_
      refine ww_iconst (v := 1) hX rfl dL_law_1022 ?_
      refine ww_iadd hX dL_law_1023 ?_
      refine ww_sld B dL_law_1024 ?_
      refine ww_aload_n hX 0 rfl dL_law_1025 rfl ?_
      refine ww_pc (b := 1026) rfl ?_
      refine ww_iload_n hX 3 rfl dL_law_1026 rfl ?_
      refine ww_iconst (v := 2) hX rfl dL_law_1027 ?_
      refine ww_iadd hX dL_law_1028 ?_
      refine ww_sld B dL_law_1029 ?_
      refine ww_if_eq (tgt := 1037) hX dL_law_1030 (by decide) ?_ ?_
      · refine ww_iconst (v := 0) hX rfl dL_law_1037 ?_
        exact t_L_law_1038 fu xs L B k_18 h_18 x0 x1 x2 x3 x1 (xs (ix (x3 + 1))) 0 st
      · refine ww_iconst (v := 1) hX rfl dL_law_1033 ?_
        refine ww_goto (tgt := 1038) hX dL_law_1034 (by decide) ?_
        exact t_L_law_1038 fu xs L B k_18 h_18 x0 x1 x2 x3 x1 (xs (ix (x3 + 1))) 1 st
    refine ww_if (fun c33_26 => ?_) (fun c33_26 => ?_)
    · refine ww_tsw (off := 1035) (tgt := 1068) hX dL_law_33 (by rw [c33_26]; decide) (by rw [c33_26]; decide) (by rw [c33_26]; rfl) (by decide) ?_
      refine ww_aload_n hX 1 rfl dL_law_1068 rfl ?_
      refine ww_aload_n hX 0 rfl dL_law_1069 rfl ?_
      refine ww_iload_n hX 3 rfl dL_law_1070 rfl ?_
      refine ww_iconst (v := 1) hX rfl dL_law_1071 ?_
      refine ww_iadd hX dL_law_1072 ?_
      refine ww_sld B dL_law_1073 ?_
      refine ww_aload_n hX 0 rfl dL_law_1074 rfl ?_
      refine ww_pc (b := 1075) rfl ?_
      refine ww_iload_n hX 3 rfl dL_law_1075 rfl ?_
      refine ww_iconst (v := 2) hX rfl dL_law_1076 ?_
      refine ww_iadd hX dL_law_1077 ?_
      refine ww_sld B dL_law_1078 ?_
      refine ww_aload_n hX 0 rfl dL_law_1079 rfl ?_
      refine ww_iload_n hX 3 rfl dL_law_1080 rfl ?_
      refine ww_iconst (v := 3) hX rfl dL_law_1081 ?_
      refine ww_iadd hX dL_law_1082 ?_
      refine ww_pc (b := 1083) rfl ?_
      refine ww_sld B dL_law_1083 ?_
      refine ww_aload_n hX 0 rfl dL_law_1084 rfl ?_
      refine ww_iload_n hX 3 rfl dL_law_1085 rfl ?_
      refine ww_iconst (v := 4) hX rfl dL_law_1086 ?_
      refine ww_iadd hX dL_law_1087 ?_
      refine ww_sld B dL_law_1088 ?_
      refine ww_aload_n hX 0 rfl dL_law_1089 rfl ?_
      refine ww_iload_n hX 3 rfl dL_law_1090 rfl ?_
      refine ww_pc (b := 1091) rfl ?_
      refine ww_iconst (v := 5) hX rfl dL_law_1091 ?_
      refine ww_iadd hX dL_law_1092 ?_
      refine ww_sld B dL_law_1093 ?_
      refine ww_aload_n hX 0 rfl dL_law_1094 rfl ?_
      refine ww_iload_n hX 3 rfl dL_law_1095 rfl ?_
      refine ww_bipush (v := 6) hX rfl dL_law_1096 ?_
      refine ww_iadd hX dL_law_1098 ?_
      refine ww_sld B dL_law_1099 ?_
      refine ww_pc (b := 1100) rfl ?_
      refine ww_callVI (As := [.int (xs (ix (x3 + 1))), .int (xs (ix (x3 + 2))), .int (xs (ix (x3 + 3))), .int (xs (ix (x3 + 4))), .int (xs (ix (x3 + 5))), .int (xs (ix (x3 + 6)))]) (rest := []) (o := x1) hX (B.rk (by decide) (by decide)) g_L_128 g_L_128.in (fun _ => c_X11_ask (x_G X) (x_l X) fu x1 (xs (ix (x3 + 1))) (xs (ix (x3 + 2))) (xs (ix (x3 + 3))) (xs (ix (x3 + 4))) (xs (ix (x3 + 5))) (xs (ix (x3 + 6))) st) rfl rfl (Nat.le_of_ble_eq_true rfl) dL_law_1100 (fun r105 s106 => ?_)
      refine ww_aload_n hX 2 rfl dL_law_1103 rfl ?_
      refine ww_aload_n hX 0 rfl dL_law_1104 rfl ?_
      refine ww_iload_n hX 3 rfl dL_law_1105 rfl ?_
      refine ww_iconst (v := 1) hX rfl dL_law_1106 ?_
      refine ww_iadd hX dL_law_1107 ?_
      refine ww_sld B dL_law_1108 ?_
      refine ww_aload_n hX 0 rfl dL_law_1109 rfl ?_
      refine ww_pc (b := 1110) rfl ?_
      refine ww_iload_n hX 3 rfl dL_law_1110 rfl ?_
      refine ww_iconst (v := 2) hX rfl dL_law_1111 ?_
      refine ww_iadd hX dL_law_1112 ?_
      refine ww_sld B dL_law_1113 ?_
      refine ww_aload_n hX 0 rfl dL_law_1114 rfl ?_
      refine ww_iload_n hX 3 rfl dL_law_1115 rfl ?_
      refine ww_iconst (v := 3) hX rfl dL_law_1116 ?_
      refine ww_iadd hX dL_law_1117 ?_
      refine ww_pc (b := 1118) rfl ?_
      refine ww_sld B dL_law_1118 ?_
      refine ww_aload_n hX 0 rfl dL_law_1119 rfl ?_
      refine ww_iload_n hX 3 rfl dL_law_1120 rfl ?_
      refine ww_iconst (v := 4) hX rfl dL_law_1121 ?_
      refine ww_iadd hX dL_law_1122 ?_
      refine ww_sld B dL_law_1123 ?_
      refine ww_aload_n hX 0 rfl dL_law_1124 rfl ?_
      refine ww_iload_n hX 3 rfl dL_law_1125 rfl ?_
      refine ww_pc (b := 1126) rfl ?_
      refine ww_iconst (v := 5) hX rfl dL_law_1126 ?_
      refine ww_iadd hX dL_law_1127 ?_
      refine ww_sld B dL_law_1128 ?_
      refine ww_aload_n hX 0 rfl dL_law_1129 rfl ?_
      refine ww_iload_n hX 3 rfl dL_law_1130 rfl ?_
      refine ww_bipush (v := 6) hX rfl dL_law_1131 ?_
      refine ww_iadd hX dL_law_1133 ?_
      refine ww_sld B dL_law_1134 ?_
      refine ww_pc (b := 1135) rfl ?_
      refine ww_callVI (As := [.int (xs (ix (x3 + 1))), .int (xs (ix (x3 + 2))), .int (xs (ix (x3 + 3))), .int (xs (ix (x3 + 4))), .int (xs (ix (x3 + 5))), .int (xs (ix (x3 + 6)))]) (rest := [.int r105]) (o := x2) hX (B.rk (by decide) (by decide)) g_L_132 g_L_132.in (fun _ => c_X12_ask (x_G X) (x_l X) fu x2 (xs (ix (x3 + 1))) (xs (ix (x3 + 2))) (xs (ix (x3 + 3))) (xs (ix (x3 + 4))) (xs (ix (x3 + 5))) (xs (ix (x3 + 6))) s106) rfl rfl (Nat.le_of_ble_eq_true rfl) dL_law_1135 (fun r107 s108 => ?_)
      refine ww_icmp_eq (tgt := 1488) hX dL_law_1138 (by decide) ?_ ?_
      · exact t_L_law_1488 fu xs L B k_18 h_18 x0 x1 x2 x3  s108
      · refine ww_iconst (v := 0) hX rfl dL_law_1141 ?_
        exact ww_lawret B dL_law_1142
    refine ww_if (fun c33_27 => ?_) (fun c33_27 => ?_)
    · refine ww_tsw (off := 1110) (tgt := 1143) hX dL_law_33 (by rw [c33_27]; decide) (by rw [c33_27]; decide) (by rw [c33_27]; rfl) (by decide) ?_
      refine ww_aload_n hX 1 rfl dL_law_1143 rfl ?_
      refine ww_aload_n hX 0 rfl dL_law_1144 rfl ?_
      refine ww_iload_n hX 3 rfl dL_law_1145 rfl ?_
      refine ww_iconst (v := 1) hX rfl dL_law_1146 ?_
      refine ww_iadd hX dL_law_1147 ?_
      refine ww_sld B dL_law_1148 ?_
      refine ww_aload_n hX 0 rfl dL_law_1149 rfl ?_
      refine ww_pc (b := 1150) rfl ?_
      refine ww_iload_n hX 3 rfl dL_law_1150 rfl ?_
      refine ww_iconst (v := 2) hX rfl dL_law_1151 ?_
      refine ww_iadd hX dL_law_1152 ?_
      refine ww_sld B dL_law_1153 ?_
      refine ww_callVI (As := [.int (xs (ix (x3 + 1))), .int (xs (ix (x3 + 2)))]) (rest := []) (o := x1) hX (B.rk (by decide) (by decide)) g_L_133 g_L_133.in (fun _ => c_X11_hold (x_G X) (x_l X) fu x1 (xs (ix (x3 + 1))) (xs (ix (x3 + 2))) st) rfl rfl (Nat.le_of_ble_eq_true rfl) dL_law_1154 (fun r109 s110 => ?_)
      refine ww_aload_n hX 2 rfl dL_law_1157 rfl ?_
      refine ww_aload_n hX 0 rfl dL_law_1158 rfl ?_
      refine ww_iload_n hX 3 rfl dL_law_1159 rfl ?_
      refine ww_pc (b := 1160) rfl ?_
      refine ww_iconst (v := 1) hX rfl dL_law_1160 ?_
      refine ww_iadd hX dL_law_1161 ?_
      refine ww_sld B dL_law_1162 ?_
      refine ww_aload_n hX 0 rfl dL_law_1163 rfl ?_
      refine ww_iload_n hX 3 rfl dL_law_1164 rfl ?_
      refine ww_iconst (v := 2) hX rfl dL_law_1165 ?_
      refine ww_iadd hX dL_law_1166 ?_
      refine ww_sld B dL_law_1167 ?_
      refine ww_pc (b := 1168) rfl ?_
      refine ww_callVI (As := [.int (xs (ix (x3 + 1))), .int (xs (ix (x3 + 2)))]) (rest := [.int r109]) (o := x2) hX (B.rk (by decide) (by decide)) g_L_136 g_L_136.in (fun _ => c_X12_hold (x_G X) (x_l X) fu x2 (xs (ix (x3 + 1))) (xs (ix (x3 + 2))) s110) rfl rfl (Nat.le_of_ble_eq_true rfl) dL_law_1168 (fun r111 s112 => ?_)
      refine ww_icmp_eq (tgt := 1488) hX dL_law_1171 (by decide) ?_ ?_
      · exact t_L_law_1488 fu xs L B k_18 h_18 x0 x1 x2 x3  s112
      · refine ww_iconst (v := 0) hX rfl dL_law_1174 ?_
        exact ww_lawret B dL_law_1175
    refine ww_if (fun c33_28 => ?_) (fun c33_28 => ?_)
    · refine ww_tsw (off := 1143) (tgt := 1176) hX dL_law_33 (by rw [c33_28]; decide) (by rw [c33_28]; decide) (by rw [c33_28]; rfl) (by decide) ?_
      refine ww_aload_n hX 1 rfl dL_law_1176 rfl ?_
      refine ww_aload_n hX 0 rfl dL_law_1177 rfl ?_
      refine ww_iload_n hX 3 rfl dL_law_1178 rfl ?_
      refine ww_iconst (v := 1) hX rfl dL_law_1179 ?_
      refine ww_iadd hX dL_law_1180 ?_
      refine ww_sld B dL_law_1181 ?_
      refine ww_aload_n hX 0 rfl dL_law_1182 rfl ?_
      refine ww_pc (b := 1183) rfl ?_
      refine ww_iload_n hX 3 rfl dL_law_1183 rfl ?_
      refine ww_iconst (v := 2) hX rfl dL_law_1184 ?_
      refine ww_iadd hX dL_law_1185 ?_
      refine ww_sld B dL_law_1186 ?_
      refine ww_callVI (As := [.int (xs (ix (x3 + 1))), .int (xs (ix (x3 + 2)))]) (rest := []) (o := x1) hX (B.rk (by decide) (by decide)) g_L_137 g_L_137.in (fun _ => c_X11_pay (x_G X) (x_l X) fu x1 (xs (ix (x3 + 1))) (xs (ix (x3 + 2))) st) rfl rfl (Nat.le_of_ble_eq_true rfl) dL_law_1187 (fun r113 s114 => ?_)
      refine ww_aload_n hX 2 rfl dL_law_1190 rfl ?_
      refine ww_aload_n hX 0 rfl dL_law_1191 rfl ?_
      refine ww_iload_n hX 3 rfl dL_law_1192 rfl ?_
      refine ww_pc (b := 1193) rfl ?_
      refine ww_iconst (v := 1) hX rfl dL_law_1193 ?_
      refine ww_iadd hX dL_law_1194 ?_
      refine ww_sld B dL_law_1195 ?_
      refine ww_aload_n hX 0 rfl dL_law_1196 rfl ?_
      refine ww_iload_n hX 3 rfl dL_law_1197 rfl ?_
      refine ww_iconst (v := 2) hX rfl dL_law_1198 ?_
      refine ww_iadd hX dL_law_1199 ?_
      refine ww_sld B dL_law_1200 ?_
      refine ww_pc (b := 1201) rfl ?_
      refine ww_callVI (As := [.int (xs (ix (x3 + 1))), .int (xs (ix (x3 + 2)))]) (rest := [.int r113]) (o := x2) hX (B.rk (by decide) (by decide)) g_L_140 g_L_140.in (fun _ => c_X12_pay (x_G X) (x_l X) fu x2 (xs (ix (x3 + 1))) (xs (ix (x3 + 2))) s114) rfl rfl (Nat.le_of_ble_eq_true rfl) dL_law_1201 (fun r115 s116 => ?_)
      refine ww_icmp_eq (tgt := 1488) hX dL_law_1204 (by decide) ?_ ?_
      · exact t_L_law_1488 fu xs L B k_18 h_18 x0 x1 x2 x3  s116
      · refine ww_iconst (v := 0) hX rfl dL_law_1207 ?_
        exact ww_lawret B dL_law_1208
    refine ww_if (fun c33_29 => ?_) (fun c33_29 => ?_)
    · refine ww_tsw (off := 1176) (tgt := 1209) hX dL_law_33 (by rw [c33_29]; decide) (by rw [c33_29]; decide) (by rw [c33_29]; rfl) (by decide) ?_
      refine ww_aload_n hX 1 rfl dL_law_1209 rfl ?_
      refine ww_aload_n hX 0 rfl dL_law_1210 rfl ?_
      refine ww_iload_n hX 3 rfl dL_law_1211 rfl ?_
      refine ww_iconst (v := 1) hX rfl dL_law_1212 ?_
      refine ww_iadd hX dL_law_1213 ?_
      refine ww_sld B dL_law_1214 ?_
      refine ww_callVI (As := [.int (xs (ix (x3 + 1)))]) (rest := []) (o := x1) hX (B.rk (by decide) (by decide)) g_L_141 g_L_141.in (fun _ => c_X11_give (x_G X) (x_l X) fu x1 (xs (ix (x3 + 1))) st) rfl rfl (Nat.le_of_ble_eq_true rfl) dL_law_1215 (fun r117 s118 => ?_)
      refine ww_pc (b := 1218) rfl ?_
      refine ww_aload_n hX 2 rfl dL_law_1218 rfl ?_
      refine ww_aload_n hX 0 rfl dL_law_1219 rfl ?_
      refine ww_iload_n hX 3 rfl dL_law_1220 rfl ?_
      refine ww_iconst (v := 1) hX rfl dL_law_1221 ?_
      refine ww_iadd hX dL_law_1222 ?_
      refine ww_sld B dL_law_1223 ?_
      refine ww_callVI (As := [.int (xs (ix (x3 + 1)))]) (rest := [.int r117]) (o := x2) hX (B.rk (by decide) (by decide)) g_L_144 g_L_144.in (fun _ => c_X12_give (x_G X) (x_l X) fu x2 (xs (ix (x3 + 1))) s118) rfl rfl (Nat.le_of_ble_eq_true rfl) dL_law_1224 (fun r119 s120 => ?_)
      refine ww_icmp_eq (tgt := 1488) hX dL_law_1227 (by decide) ?_ ?_
      · exact t_L_law_1488 fu xs L B k_18 h_18 x0 x1 x2 x3  s120
      · refine ww_iconst (v := 0) hX rfl dL_law_1230 ?_
        exact ww_lawret B dL_law_1231
    refine ww_if (fun c33_30 => ?_) (fun c33_30 => ?_)
    · refine ww_tsw (off := 1199) (tgt := 1232) hX dL_law_33 (by rw [c33_30]; decide) (by rw [c33_30]; decide) (by rw [c33_30]; rfl) (by decide) ?_
      refine ww_aload_n hX 1 rfl dL_law_1232 rfl ?_
      refine ww_aload_n hX 0 rfl dL_law_1233 rfl ?_
      refine ww_iload_n hX 3 rfl dL_law_1234 rfl ?_
      refine ww_iconst (v := 1) hX rfl dL_law_1235 ?_
      refine ww_iadd hX dL_law_1236 ?_
      refine ww_sld B dL_law_1237 ?_
      refine ww_aload_n hX 0 rfl dL_law_1238 rfl ?_
      refine ww_pc (b := 1239) rfl ?_
      refine ww_iload_n hX 3 rfl dL_law_1239 rfl ?_
      refine ww_iconst (v := 2) hX rfl dL_law_1240 ?_
      refine ww_iadd hX dL_law_1241 ?_
      refine ww_sld B dL_law_1242 ?_
      refine ww_callVI (As := [.int (xs (ix (x3 + 1))), .int (xs (ix (x3 + 2)))]) (rest := []) (o := x1) hX (B.rk (by decide) (by decide)) g_L_145 g_L_145.in (fun _ => c_X11_back (x_G X) (x_l X) fu x1 (xs (ix (x3 + 1))) (xs (ix (x3 + 2))) st) rfl rfl (Nat.le_of_ble_eq_true rfl) dL_law_1243 (fun r121 s122 => ?_)
      refine ww_aload_n hX 2 rfl dL_law_1246 rfl ?_
      refine ww_aload_n hX 0 rfl dL_law_1247 rfl ?_
      refine ww_iload_n hX 3 rfl dL_law_1248 rfl ?_
      refine ww_pc (b := 1249) rfl ?_
      refine ww_iconst (v := 1) hX rfl dL_law_1249 ?_
      refine ww_iadd hX dL_law_1250 ?_
      refine ww_sld B dL_law_1251 ?_
      refine ww_aload_n hX 0 rfl dL_law_1252 rfl ?_
      refine ww_iload_n hX 3 rfl dL_law_1253 rfl ?_
      refine ww_iconst (v := 2) hX rfl dL_law_1254 ?_
      refine ww_iadd hX dL_law_1255 ?_
      refine ww_sld B dL_law_1256 ?_
      refine ww_pc (b := 1257) rfl ?_
      refine ww_callVI (As := [.int (xs (ix (x3 + 1))), .int (xs (ix (x3 + 2)))]) (rest := [.int r121]) (o := x2) hX (B.rk (by decide) (by decide)) g_L_148 g_L_148.in (fun _ => c_X12_back (x_G X) (x_l X) fu x2 (xs (ix (x3 + 1))) (xs (ix (x3 + 2))) s122) rfl rfl (Nat.le_of_ble_eq_true rfl) dL_law_1257 (fun r123 s124 => ?_)
      refine ww_icmp_eq (tgt := 1488) hX dL_law_1260 (by decide) ?_ ?_
      · exact t_L_law_1488 fu xs L B k_18 h_18 x0 x1 x2 x3  s124
      · refine ww_iconst (v := 0) hX rfl dL_law_1263 ?_
        exact ww_lawret B dL_law_1264
    refine ww_if (fun c33_31 => ?_) (fun c33_31 => ?_)
    · refine ww_tsw (off := 1232) (tgt := 1265) hX dL_law_33 (by rw [c33_31]; decide) (by rw [c33_31]; decide) (by rw [c33_31]; rfl) (by decide) ?_
      refine ww_aload_n hX 1 rfl dL_law_1265 rfl ?_
      refine ww_aload_n hX 0 rfl dL_law_1266 rfl ?_
      refine ww_iload_n hX 3 rfl dL_law_1267 rfl ?_
      refine ww_iconst (v := 1) hX rfl dL_law_1268 ?_
      refine ww_iadd hX dL_law_1269 ?_
      refine ww_sld B dL_law_1270 ?_
      refine ww_callVI (As := [.int (xs (ix (x3 + 1)))]) (rest := []) (o := x1) hX (B.rk (by decide) (by decide)) g_L_149 g_L_149.in (fun _ => c_X11_enter (x_G X) (x_l X) fu x1 (xs (ix (x3 + 1))) st) rfl rfl (Nat.le_of_ble_eq_true rfl) dL_law_1271 (fun r125 s126 => ?_)
      refine ww_pc (b := 1274) rfl ?_
      refine ww_aload_n hX 2 rfl dL_law_1274 rfl ?_
      refine ww_aload_n hX 0 rfl dL_law_1275 rfl ?_
      refine ww_iload_n hX 3 rfl dL_law_1276 rfl ?_
      refine ww_iconst (v := 1) hX rfl dL_law_1277 ?_
      refine ww_iadd hX dL_law_1278 ?_
      refine ww_sld B dL_law_1279 ?_
      refine ww_callVI (As := [.int (xs (ix (x3 + 1)))]) (rest := [.int r125]) (o := x2) hX (B.rk (by decide) (by decide)) g_L_152 g_L_152.in (fun _ => c_X12_enter (x_G X) (x_l X) fu x2 (xs (ix (x3 + 1))) s126) rfl rfl (Nat.le_of_ble_eq_true rfl) dL_law_1280 (fun r127 s128 => ?_)
      refine ww_icmp_eq (tgt := 1488) hX dL_law_1283 (by decide) ?_ ?_
      · exact t_L_law_1488 fu xs L B k_18 h_18 x0 x1 x2 x3  s128
      · refine ww_iconst (v := 0) hX rfl dL_law_1286 ?_
        exact ww_lawret B dL_law_1287
    refine ww_if (fun c33_32 => ?_) (fun c33_32 => ?_)
    · refine ww_tsw (off := 1255) (tgt := 1288) hX dL_law_33 (by rw [c33_32]; decide) (by rw [c33_32]; decide) (by rw [c33_32]; rfl) (by decide) ?_
      refine ww_aload_n hX 1 rfl dL_law_1288 rfl ?_
      refine ww_aload_n hX 0 rfl dL_law_1289 rfl ?_
      refine ww_iload_n hX 3 rfl dL_law_1290 rfl ?_
      refine ww_iconst (v := 1) hX rfl dL_law_1291 ?_
      refine ww_iadd hX dL_law_1292 ?_
      refine ww_sld B dL_law_1293 ?_
      refine ww_aload_n hX 0 rfl dL_law_1294 rfl ?_
      refine ww_pc (b := 1295) rfl ?_
      refine ww_iload_n hX 3 rfl dL_law_1295 rfl ?_
      refine ww_iconst (v := 2) hX rfl dL_law_1296 ?_
      refine ww_iadd hX dL_law_1297 ?_
      refine ww_sld B dL_law_1298 ?_
      refine ww_callVI (As := [.int (xs (ix (x3 + 1))), .int (xs (ix (x3 + 2)))]) (rest := []) (o := x1) hX (B.rk (by decide) (by decide)) g_L_153 g_L_153.in (fun _ => c_X11_seat (x_G X) (x_l X) fu x1 (xs (ix (x3 + 1))) (xs (ix (x3 + 2))) st) rfl rfl (Nat.le_of_ble_eq_true rfl) dL_law_1299 (fun r129 s130 => ?_)
      refine ww_aload_n hX 2 rfl dL_law_1302 rfl ?_
      refine ww_aload_n hX 0 rfl dL_law_1303 rfl ?_
      refine ww_iload_n hX 3 rfl dL_law_1304 rfl ?_
      refine ww_pc (b := 1305) rfl ?_
      refine ww_iconst (v := 1) hX rfl dL_law_1305 ?_
      refine ww_iadd hX dL_law_1306 ?_
      refine ww_sld B dL_law_1307 ?_
      refine ww_aload_n hX 0 rfl dL_law_1308 rfl ?_
      refine ww_iload_n hX 3 rfl dL_law_1309 rfl ?_
      refine ww_iconst (v := 2) hX rfl dL_law_1310 ?_
      refine ww_iadd hX dL_law_1311 ?_
      refine ww_sld B dL_law_1312 ?_
      refine ww_pc (b := 1313) rfl ?_
      refine ww_callVI (As := [.int (xs (ix (x3 + 1))), .int (xs (ix (x3 + 2)))]) (rest := [.int r129]) (o := x2) hX (B.rk (by decide) (by decide)) g_L_156 g_L_156.in (fun _ => c_X12_seat (x_G X) (x_l X) fu x2 (xs (ix (x3 + 1))) (xs (ix (x3 + 2))) s130) rfl rfl (Nat.le_of_ble_eq_true rfl) dL_law_1313 (fun r131 s132 => ?_)
      refine ww_icmp_eq (tgt := 1488) hX dL_law_1316 (by decide) ?_ ?_
      · exact t_L_law_1488 fu xs L B k_18 h_18 x0 x1 x2 x3  s132
      · refine ww_iconst (v := 0) hX rfl dL_law_1319 ?_
        exact ww_lawret B dL_law_1320
    refine ww_if (fun c33_33 => ?_) (fun c33_33 => ?_)
    · refine ww_tsw (off := 1288) (tgt := 1321) hX dL_law_33 (by rw [c33_33]; decide) (by rw [c33_33]; decide) (by rw [c33_33]; rfl) (by decide) ?_
      refine ww_aload_n hX 1 rfl dL_law_1321 rfl ?_
      refine ww_aload_n hX 0 rfl dL_law_1322 rfl ?_
      refine ww_iload_n hX 3 rfl dL_law_1323 rfl ?_
      refine ww_iconst (v := 1) hX rfl dL_law_1324 ?_
      refine ww_iadd hX dL_law_1325 ?_
      refine ww_sld B dL_law_1326 ?_
      refine ww_callVI (As := [.int (xs (ix (x3 + 1)))]) (rest := []) (o := x1) hX (B.rk (by decide) (by decide)) g_L_157 g_L_157.in (fun _ => c_X11_told (x_G X) (x_l X) fu x1 (xs (ix (x3 + 1))) st) rfl rfl (Nat.le_of_ble_eq_true rfl) dL_law_1327 (fun r133 s134 => ?_)
      refine ww_pc (b := 1330) rfl ?_
      refine ww_aload_n hX 2 rfl dL_law_1330 rfl ?_
      refine ww_aload_n hX 0 rfl dL_law_1331 rfl ?_
      refine ww_iload_n hX 3 rfl dL_law_1332 rfl ?_
      refine ww_iconst (v := 1) hX rfl dL_law_1333 ?_
      refine ww_iadd hX dL_law_1334 ?_
      refine ww_sld B dL_law_1335 ?_
      refine ww_callVI (As := [.int (xs (ix (x3 + 1)))]) (rest := [.int r133]) (o := x2) hX (B.rk (by decide) (by decide)) g_L_160 g_L_160.in (fun _ => c_X12_told (x_G X) (x_l X) fu x2 (xs (ix (x3 + 1))) s134) rfl rfl (Nat.le_of_ble_eq_true rfl) dL_law_1336 (fun r135 s136 => ?_)
      refine ww_icmp_eq (tgt := 1488) hX dL_law_1339 (by decide) ?_ ?_
      · exact t_L_law_1488 fu xs L B k_18 h_18 x0 x1 x2 x3  s136
      · refine ww_iconst (v := 0) hX rfl dL_law_1342 ?_
        exact ww_lawret B dL_law_1343
    refine ww_if (fun c33_34 => ?_) (fun c33_34 => ?_)
    · refine ww_tsw (off := 1311) (tgt := 1344) hX dL_law_33 (by rw [c33_34]; decide) (by rw [c33_34]; decide) (by rw [c33_34]; rfl) (by decide) ?_
      refine ww_aload_n hX 1 rfl dL_law_1344 rfl ?_
      refine ww_aload_n hX 0 rfl dL_law_1345 rfl ?_
      refine ww_iload_n hX 3 rfl dL_law_1346 rfl ?_
      refine ww_iconst (v := 1) hX rfl dL_law_1347 ?_
      refine ww_iadd hX dL_law_1348 ?_
      refine ww_sld B dL_law_1349 ?_
      refine ww_aload_n hX 0 rfl dL_law_1350 rfl ?_
      refine ww_pc (b := 1351) rfl ?_
      refine ww_iload_n hX 3 rfl dL_law_1351 rfl ?_
      refine ww_iconst (v := 2) hX rfl dL_law_1352 ?_
      refine ww_iadd hX dL_law_1353 ?_
      refine ww_sld B dL_law_1354 ?_
      refine ww_callVL (As := [.int (xs (ix (x3 + 1))), .int (xs (ix (x3 + 2)))]) (rest := []) (o := x1) hX (B.rk (by decide) (by decide)) g_L_161 g_L_161.in (fun _ => c_X11_share (x_G X) (x_l X) fu x1 (xs (ix (x3 + 1))) (xs (ix (x3 + 2))) st) rfl rfl (Nat.le_of_ble_eq_true rfl) dL_law_1355 (fun r137 s138 => ?_)
      refine ww_aload_n hX 2 rfl dL_law_1358 rfl ?_
      refine ww_aload_n hX 0 rfl dL_law_1359 rfl ?_
      refine ww_iload_n hX 3 rfl dL_law_1360 rfl ?_
      refine ww_pc (b := 1361) rfl ?_
      refine ww_iconst (v := 1) hX rfl dL_law_1361 ?_
      refine ww_iadd hX dL_law_1362 ?_
      refine ww_sld B dL_law_1363 ?_
      refine ww_aload_n hX 0 rfl dL_law_1364 rfl ?_
      refine ww_iload_n hX 3 rfl dL_law_1365 rfl ?_
      refine ww_iconst (v := 2) hX rfl dL_law_1366 ?_
      refine ww_iadd hX dL_law_1367 ?_
      refine ww_sld B dL_law_1368 ?_
      refine ww_pc (b := 1369) rfl ?_
      refine ww_callVL (As := [.int (xs (ix (x3 + 1))), .int (xs (ix (x3 + 2)))]) (rest := [.long r137]) (o := x2) hX (B.rk (by decide) (by decide)) g_L_165 g_L_165.in (fun _ => c_X12_share (x_G X) (x_l X) fu x2 (xs (ix (x3 + 1))) (xs (ix (x3 + 2))) s138) rfl rfl (Nat.le_of_ble_eq_true rfl) dL_law_1369 (fun r139 s140 => ?_)
      refine ww_lcmp hX dL_law_1372 ?_
      refine ww_if_eq (tgt := 1488) hX dL_law_1373 (by decide) ?_ ?_
      · exact t_L_law_1488 fu xs L B k_18 h_18 x0 x1 x2 x3  s140
      · refine ww_iconst (v := 0) hX rfl dL_law_1376 ?_
        exact ww_lawret B dL_law_1377
    refine ww_if (fun c33_35 => ?_) (fun c33_35 => ?_)
    · refine ww_tsw (off := 1345) (tgt := 1378) hX dL_law_33 (by rw [c33_35]; decide) (by rw [c33_35]; decide) (by rw [c33_35]; rfl) (by decide) ?_
      refine ww_aload_n hX 1 rfl dL_law_1378 rfl ?_
      refine ww_aload_n hX 0 rfl dL_law_1379 rfl ?_
      refine ww_iload_n hX 3 rfl dL_law_1380 rfl ?_
      refine ww_iconst (v := 1) hX rfl dL_law_1381 ?_
      refine ww_iadd hX dL_law_1382 ?_
      refine ww_sld B dL_law_1383 ?_
      refine ww_aload_n hX 0 rfl dL_law_1384 rfl ?_
      refine ww_pc (b := 1385) rfl ?_
      refine ww_iload_n hX 3 rfl dL_law_1385 rfl ?_
      refine ww_iconst (v := 2) hX rfl dL_law_1386 ?_
      refine ww_iadd hX dL_law_1387 ?_
      refine ww_sld B dL_law_1388 ?_
      refine ww_aload_n hX 0 rfl dL_law_1389 rfl ?_
      refine ww_iload_n hX 3 rfl dL_law_1390 rfl ?_
      refine ww_iconst (v := 3) hX rfl dL_law_1391 ?_
      refine ww_iadd hX dL_law_1392 ?_
      refine ww_pc (b := 1393) rfl ?_
      refine ww_sld B dL_law_1393 ?_
      refine ww_aload_n hX 0 rfl dL_law_1394 rfl ?_
      refine ww_iload_n hX 3 rfl dL_law_1395 rfl ?_
      refine ww_iconst (v := 4) hX rfl dL_law_1396 ?_
      refine ww_iadd hX dL_law_1397 ?_
      refine ww_sld B dL_law_1398 ?_
      refine ww_callVI (As := [.int (xs (ix (x3 + 1))), .int (xs (ix (x3 + 2))), .int (xs (ix (x3 + 3))), .int (xs (ix (x3 + 4)))]) (rest := []) (o := x1) hX (B.rk (by decide) (by decide)) g_L_166 g_L_166.in (fun _ => c_X11_way (x_G X) (x_l X) fu x1 (xs (ix (x3 + 1))) (xs (ix (x3 + 2))) (xs (ix (x3 + 3))) (xs (ix (x3 + 4))) st) rfl rfl (Nat.le_of_ble_eq_true rfl) dL_law_1399 (fun r141 s142 => ?_)
      refine ww_aload_n hX 2 rfl dL_law_1402 rfl ?_
      refine ww_pc (b := 1403) rfl ?_
      refine ww_aload_n hX 0 rfl dL_law_1403 rfl ?_
      refine ww_iload_n hX 3 rfl dL_law_1404 rfl ?_
      refine ww_iconst (v := 1) hX rfl dL_law_1405 ?_
      refine ww_iadd hX dL_law_1406 ?_
      refine ww_sld B dL_law_1407 ?_
      refine ww_aload_n hX 0 rfl dL_law_1408 rfl ?_
      refine ww_iload_n hX 3 rfl dL_law_1409 rfl ?_
      refine ww_iconst (v := 2) hX rfl dL_law_1410 ?_
      refine ww_pc (b := 1411) rfl ?_
      refine ww_iadd hX dL_law_1411 ?_
      refine ww_sld B dL_law_1412 ?_
      refine ww_aload_n hX 0 rfl dL_law_1413 rfl ?_
      refine ww_iload_n hX 3 rfl dL_law_1414 rfl ?_
      refine ww_iconst (v := 3) hX rfl dL_law_1415 ?_
      refine ww_iadd hX dL_law_1416 ?_
      refine ww_sld B dL_law_1417 ?_
      refine ww_aload_n hX 0 rfl dL_law_1418 rfl ?_
      refine ww_pc (b := 1419) rfl ?_
      refine ww_iload_n hX 3 rfl dL_law_1419 rfl ?_
      refine ww_iconst (v := 4) hX rfl dL_law_1420 ?_
      refine ww_iadd hX dL_law_1421 ?_
      refine ww_sld B dL_law_1422 ?_
      refine ww_callVI (As := [.int (xs (ix (x3 + 1))), .int (xs (ix (x3 + 2))), .int (xs (ix (x3 + 3))), .int (xs (ix (x3 + 4)))]) (rest := [.int r141]) (o := x2) hX (B.rk (by decide) (by decide)) g_L_169 g_L_169.in (fun _ => c_X12_way (x_G X) (x_l X) fu x2 (xs (ix (x3 + 1))) (xs (ix (x3 + 2))) (xs (ix (x3 + 3))) (xs (ix (x3 + 4))) s142) rfl rfl (Nat.le_of_ble_eq_true rfl) dL_law_1423 (fun r143 s144 => ?_)
      refine ww_icmp_eq (tgt := 1488) hX dL_law_1426 (by decide) ?_ ?_
      · exact t_L_law_1488 fu xs L B k_18 h_18 x0 x1 x2 x3  s144
      · refine ww_iconst (v := 0) hX rfl dL_law_1429 ?_
        exact ww_lawret B dL_law_1430
    refine ww_if (fun c33_36 => ?_) (fun c33_36 => ?_)
    · refine ww_tsw (off := 1398) (tgt := 1431) hX dL_law_33 (by rw [c33_36]; decide) (by rw [c33_36]; decide) (by rw [c33_36]; rfl) (by decide) ?_
      refine ww_aload_n hX 1 rfl dL_law_1431 rfl ?_
      refine ww_aload_n hX 0 rfl dL_law_1432 rfl ?_
      refine ww_iload_n hX 3 rfl dL_law_1433 rfl ?_
      refine ww_iconst (v := 1) hX rfl dL_law_1434 ?_
      refine ww_iadd hX dL_law_1435 ?_
      refine ww_sld B dL_law_1436 ?_
      refine ww_aload_n hX 0 rfl dL_law_1437 rfl ?_
      refine ww_pc (b := 1438) rfl ?_
      refine ww_iload_n hX 3 rfl dL_law_1438 rfl ?_
      refine ww_iconst (v := 2) hX rfl dL_law_1439 ?_
      refine ww_iadd hX dL_law_1440 ?_
      refine ww_sld B dL_law_1441 ?_
      refine ww_callVI (As := [.int (xs (ix (x3 + 1))), .int (xs (ix (x3 + 2)))]) (rest := []) (o := x1) hX (B.rk (by decide) (by decide)) g_L_170 g_L_170.in (fun _ => c_X11_crowd (x_G X) (x_l X) fu x1 (xs (ix (x3 + 1))) (xs (ix (x3 + 2))) st) rfl rfl (Nat.le_of_ble_eq_true rfl) dL_law_1442 (fun r145 s146 => ?_)
      refine ww_aload_n hX 2 rfl dL_law_1445 rfl ?_
      refine ww_aload_n hX 0 rfl dL_law_1446 rfl ?_
      refine ww_iload_n hX 3 rfl dL_law_1447 rfl ?_
      refine ww_pc (b := 1448) rfl ?_
      refine ww_iconst (v := 1) hX rfl dL_law_1448 ?_
      refine ww_iadd hX dL_law_1449 ?_
      refine ww_sld B dL_law_1450 ?_
      refine ww_aload_n hX 0 rfl dL_law_1451 rfl ?_
      refine ww_iload_n hX 3 rfl dL_law_1452 rfl ?_
      refine ww_iconst (v := 2) hX rfl dL_law_1453 ?_
      refine ww_iadd hX dL_law_1454 ?_
      refine ww_sld B dL_law_1455 ?_
      refine ww_pc (b := 1456) rfl ?_
      refine ww_callVI (As := [.int (xs (ix (x3 + 1))), .int (xs (ix (x3 + 2)))]) (rest := [.int r145]) (o := x2) hX (B.rk (by decide) (by decide)) g_L_173 g_L_173.in (fun _ => c_X12_crowd (x_G X) (x_l X) fu x2 (xs (ix (x3 + 1))) (xs (ix (x3 + 2))) s146) rfl rfl (Nat.le_of_ble_eq_true rfl) dL_law_1456 (fun r147 s148 => ?_)
      refine ww_icmp_eq (tgt := 1488) hX dL_law_1459 (by decide) ?_ ?_
      · exact t_L_law_1488 fu xs L B k_18 h_18 x0 x1 x2 x3  s148
      · refine ww_iconst (v := 0) hX rfl dL_law_1462 ?_
        exact ww_lawret B dL_law_1463
    refine ww_if (fun c33_37 => ?_) (fun c33_37 => ?_)
    · refine ww_tsw (off := 1431) (tgt := 1464) hX dL_law_33 (by rw [c33_37]; decide) (by rw [c33_37]; decide) (by rw [c33_37]; rfl) (by decide) ?_
      refine ww_aload_n hX 1 rfl dL_law_1464 rfl ?_
      refine ww_callVV (As := []) (rest := []) (o := x1) hX (B.rk (by decide) (by decide)) g_L_174 g_L_174.in (fun _ => c_X11_clearWays (x_G X) (x_l X) fu x1 st) rfl rfl (Nat.le_of_ble_eq_true rfl) dL_law_1465 (fun s149 => ?_)
      refine ww_aload_n hX 2 rfl dL_law_1468 rfl ?_
      refine ww_callVV (As := []) (rest := []) (o := x2) hX (B.rk (by decide) (by decide)) g_L_177 g_L_177.in (fun _ => c_X12_clearWays (x_G X) (x_l X) fu x2 s149) rfl rfl (Nat.le_of_ble_eq_true rfl) dL_law_1469 (fun s150 => ?_)
      refine ww_goto (tgt := 1488) hX dL_law_1472 (by decide) ?_
      exact t_L_law_1488 fu xs L B k_18 h_18 x0 x1 x2 x3  s150
    refine ww_if (fun c33_38 => ?_) (fun c33_38 => ?_)
    · refine ww_tsw (off := 1442) (tgt := 1475) hX dL_law_33 (by rw [c33_38]; decide) (by rw [c33_38]; decide) (by rw [c33_38]; rfl) (by decide) ?_
      refine ww_aload_n hX 1 rfl dL_law_1475 rfl ?_
      refine ww_callVI (As := []) (rest := []) (o := x1) hX (B.rk (by decide) (by decide)) g_L_178 g_L_178.in (fun _ => c_X11_empty (x_G X) (x_l X) fu x1 st) rfl rfl (Nat.le_of_ble_eq_true rfl) dL_law_1476 (fun r151 s152 => ?_)
      refine ww_aload_n hX 2 rfl dL_law_1479 rfl ?_
      refine ww_callVI (As := []) (rest := [.int r151]) (o := x2) hX (B.rk (by decide) (by decide)) g_L_181 g_L_181.in (fun _ => c_X12_empty (x_G X) (x_l X) fu x2 s152) rfl rfl (Nat.le_of_ble_eq_true rfl) dL_law_1480 (fun r153 s154 => ?_)
      refine ww_icmp_eq (tgt := 1488) hX dL_law_1483 (by decide) ?_ ?_
      · exact t_L_law_1488 fu xs L B k_18 h_18 x0 x1 x2 x3  s154
      · refine ww_iconst (v := 0) hX rfl dL_law_1486 ?_
        exact ww_lawret B dL_law_1487
    refine ww_tswd (tgt := 1488) hX dL_law_33 (by have z0 : v1.toInt ≠ 0 := fun q => c33_0 (Int32.toInt_inj.mp (q.trans (by decide))); have z1 : v1.toInt ≠ 1 := fun q => c33_1 (Int32.toInt_inj.mp (q.trans (by decide))); have z2 : v1.toInt ≠ 2 := fun q => c33_2 (Int32.toInt_inj.mp (q.trans (by decide))); have z3 : v1.toInt ≠ 3 := fun q => c33_3 (Int32.toInt_inj.mp (q.trans (by decide))); have z4 : v1.toInt ≠ 4 := fun q => c33_4 (Int32.toInt_inj.mp (q.trans (by decide))); have z5 : v1.toInt ≠ 5 := fun q => c33_5 (Int32.toInt_inj.mp (q.trans (by decide))); have z6 : v1.toInt ≠ 6 := fun q => c33_6 (Int32.toInt_inj.mp (q.trans (by decide))); have z7 : v1.toInt ≠ 7 := fun q => c33_7 (Int32.toInt_inj.mp (q.trans (by decide))); have z8 : v1.toInt ≠ 8 := fun q => c33_8 (Int32.toInt_inj.mp (q.trans (by decide))); have z9 : v1.toInt ≠ 9 := fun q => c33_9 (Int32.toInt_inj.mp (q.trans (by decide))); have z10 : v1.toInt ≠ 10 := fun q => c33_10 (Int32.toInt_inj.mp (q.trans (by decide))); have z11 : v1.toInt ≠ 11 := fun q => c33_11 (Int32.toInt_inj.mp (q.trans (by decide))); have z12 : v1.toInt ≠ 12 := fun q => c33_12 (Int32.toInt_inj.mp (q.trans (by decide))); have z13 : v1.toInt ≠ 13 := fun q => c33_13 (Int32.toInt_inj.mp (q.trans (by decide))); have z14 : v1.toInt ≠ 14 := fun q => c33_14 (Int32.toInt_inj.mp (q.trans (by decide))); have z15 : v1.toInt ≠ 15 := fun q => c33_15 (Int32.toInt_inj.mp (q.trans (by decide))); have z16 : v1.toInt ≠ 16 := fun q => c33_16 (Int32.toInt_inj.mp (q.trans (by decide))); have z17 : v1.toInt ≠ 17 := fun q => c33_17 (Int32.toInt_inj.mp (q.trans (by decide))); have z18 : v1.toInt ≠ 18 := fun q => c33_18 (Int32.toInt_inj.mp (q.trans (by decide))); have z19 : v1.toInt ≠ 19 := fun q => c33_19 (Int32.toInt_inj.mp (q.trans (by decide))); have z20 : v1.toInt ≠ 20 := fun q => c33_20 (Int32.toInt_inj.mp (q.trans (by decide))); have z21 : v1.toInt ≠ 21 := fun q => c33_21 (Int32.toInt_inj.mp (q.trans (by decide))); have z22 : v1.toInt ≠ 22 := fun q => c33_22 (Int32.toInt_inj.mp (q.trans (by decide))); have z23 : v1.toInt ≠ 23 := fun q => c33_23 (Int32.toInt_inj.mp (q.trans (by decide))); have z24 : v1.toInt ≠ 24 := fun q => c33_24 (Int32.toInt_inj.mp (q.trans (by decide))); have z25 : v1.toInt ≠ 25 := fun q => c33_25 (Int32.toInt_inj.mp (q.trans (by decide))); have z26 : v1.toInt ≠ 26 := fun q => c33_26 (Int32.toInt_inj.mp (q.trans (by decide))); have z27 : v1.toInt ≠ 27 := fun q => c33_27 (Int32.toInt_inj.mp (q.trans (by decide))); have z28 : v1.toInt ≠ 28 := fun q => c33_28 (Int32.toInt_inj.mp (q.trans (by decide))); have z29 : v1.toInt ≠ 29 := fun q => c33_29 (Int32.toInt_inj.mp (q.trans (by decide))); have z30 : v1.toInt ≠ 30 := fun q => c33_30 (Int32.toInt_inj.mp (q.trans (by decide))); have z31 : v1.toInt ≠ 31 := fun q => c33_31 (Int32.toInt_inj.mp (q.trans (by decide))); have z32 : v1.toInt ≠ 32 := fun q => c33_32 (Int32.toInt_inj.mp (q.trans (by decide))); have z33 : v1.toInt ≠ 33 := fun q => c33_33 (Int32.toInt_inj.mp (q.trans (by decide))); have z34 : v1.toInt ≠ 34 := fun q => c33_34 (Int32.toInt_inj.mp (q.trans (by decide))); have z35 : v1.toInt ≠ 35 := fun q => c33_35 (Int32.toInt_inj.mp (q.trans (by decide))); have z36 : v1.toInt ≠ 36 := fun q => c33_36 (Int32.toInt_inj.mp (q.trans (by decide))); have z37 : v1.toInt ≠ 37 := fun q => c33_37 (Int32.toInt_inj.mp (q.trans (by decide))); have z38 : v1.toInt ≠ 38 := fun q => c33_38 (Int32.toInt_inj.mp (q.trans (by decide))); omega) (by decide) ?_
    exact t_L_law_1488 fu xs L B k_18 h_18 x0 x1 x2 x3  st
def b_L_law_18 (fu : Nat) (xs : Nat → Int32) (L : Nat) : Nat → Nat → Nat → Nat → Int32 → St → Option (Int32)
  | 0, _, _, _, _, _ => none
  | i + 1, x0, x1, x2, x3, st => b_L_law_18_b fu xs L (b_L_law_18 fu xs L i) x0 x1 x2 x3 st
theorem t_L_law_18 {X : CX} {sb : Nat} (fu : Nat) (xs : Nat → Int32) (L : Nat) (B : BQ X sb L xs) : ∀ (i : Nat) (x0 : Nat) (x1 : Nat) (x2 : Nat) (x3 : Int32)  (st : St), WW X (1 : Int32) NN 18 [(0, .ref sb), (1, .ref (x_b X + x1)), (2, .ref (x_b X + x2)), (3, .int x3)] [] st (b_L_law_18 fu xs L i x0 x1 x2 x3 st) := by
  intro i
  induction i with
  | zero => intro x0 x1 x2 x3 st; exact ww_none
  | succ i ih => intro x0 x1 x2 x3 st; exact t_L_law_18_b fu xs L B (b_L_law_18 fu xs L i) ih x0 x1 x2 x3 st
