abbrev rt_L_alive : Type := (Int32)
def f_L_alive (a1 : Int32) (cu : CU) : Option rt_L_alive :=
zl2 (R := rt_L_alive) (fun k4 (i2_4 : Int32) (i3_4 : Int32) =>
if (((1 : Int32) <<< (a1 &&& 31)) : Int32) ≤ i3_4 then (
some i2_4) else (
zob (F_isAlive i3_4 cu) (fun u1 =>
zjp (T := Int32 → Int32 → Option rt_L_alive) (fun (s0_26 : Int32) (s1_26 : Int32) =>
zbd (A := Int32) (s0_26 + s1_26) (fun x2 =>
zbd (A := Int32) (i3_4 + 1) (fun x3 =>
k4 x2 x3))) (fun K26 =>
if (u1 : Int32) = 1 then (
K26 i2_4 1) else (
K26 i2_4 0))))) 64 0 0
abbrev rt_L_areLevels : Type := (Int32)
def f_L_areLevels (a1 : Int32) (cu : CU) : Option rt_L_areLevels :=
zob (F_rounds cu) (fun u1 =>
zjp (T := Int32 → Option rt_L_areLevels) (fun (s0_14 : Int32) =>
zl3 (R := rt_L_areLevels) (fun k18 (i2_18 : Int32) (i3_18 : Int32) (i4_18 : Int32) =>
zjp (T := Option rt_L_areLevels) (
zjp (T := Option rt_L_areLevels) (
some 0) (fun K250 =>
if (i3_18 : Int32) = 0 then (
K250) else (
zob (F_safeNodes cu) (fun u2 =>
if (u2 : Int32) = i2_18 then (
some 1) else (
K250))))) (fun K234 =>
if (((1 : Int32) <<< (a1 &&& 31)) : Int32) ≤ i4_18 then (
K234) else (
if (i3_18 : Int32) = 0 then (
K234) else (
zob (F_level i4_18 cu) (fun u3 =>
zjp (T := Int32 → Int32 → Option rt_L_areLevels) (fun (s0_50 : Int32) (s1_50 : Int32) =>
zbd (A := Int32) (s0_50 + s1_50) (fun x4 =>
zob (F_isAlive i4_18 cu) (fun u5 =>
zjp (T := Int32 → Option rt_L_areLevels) (fun (i3_228 : Int32) =>
zbd (A := Int32) (i4_18 + 1) (fun x6 =>
k18 x4 i3_228 x6)) (fun K228 =>
if (u5 : Int32) = 0 then (
zjp (T := Int32 → Option rt_L_areLevels) (fun (s0_91 : Int32) =>
K228 s0_91) (fun K91 =>
zjp (T := Option rt_L_areLevels) (
K91 0) (fun K90 =>
if (u3 : Int32) = 0 then (
zob (F_vectorBit i4_18 1 cu) (fun u12 =>
if (u12 : Int32) = 0 then (
zob (F_vectorBit i4_18 a1 cu) (fun u13 =>
if (u13 : Int32) = 0 then (
K91 1) else (
K90))) else (
K90))) else (
K90)))) else (
zjp (T := Int32 → Option rt_L_areLevels) (fun (s0_122 : Int32) =>
zl2 (R := rt_L_areLevels) (fun k126 (i3_126 : Int32) (i6_126 : Int32) =>
if (u3 : Int32) < i6_126 then (
K228 i3_126) else (
if (i3_126 : Int32) = 0 then (
K228 i3_126) else (
zl2 (R := rt_L_areLevels) (fun k143 (i7_143 : Int32) (i8_143 : Int32) =>
if (a1 : Int32) ≤ i8_143 then (
zjp (T := Int32 → Option rt_L_areLevels) (fun (s0_221 : Int32) =>
zbd (A := Int32) (i6_126 + 1) (fun x7 =>
k126 s0_221 x7)) (fun K221 =>
if (u3 : Int32) ≤ i6_126 then (
zjp (T := Option rt_L_areLevels) (
K221 1) (fun K216 =>
if (u3 : Int32) = a1 then (
K216) else (
if (i7_143 : Int32) ≤ i6_126 then (
K221 0) else (
K216)))) else (
if (i6_126 : Int32) < i7_143 then (
K221 0) else (
K221 1)))) else (
zob (F_level (i4_18 ^^^ ((1 : Int32) <<< (i8_143 &&& 31))) cu) (fun u8 =>
zjp (T := Int32 → Int32 → Option rt_L_areLevels) (fun (s0_172 : Int32) (s1_172 : Int32) =>
zbd (A := Int32) (s0_172 + s1_172) (fun x9 =>
zbd (A := Int32) (i8_143 + 1) (fun x10 =>
k143 x9 x10))) (fun K172 =>
if (i6_126 : Int32) ≤ u8 then (
K172 i7_143 0) else (
K172 i7_143 1))))) 8 0 0))) 8 s0_122 1) (fun K122 =>
zjp (T := Option rt_L_areLevels) (
K122 0) (fun K121 =>
if (u3 : Int32) ≤ 0 then (
K121) else (
if (a1 : Int32) < u3 then (
K121) else (
zob (F_vectorBit i4_18 1 cu) (fun u11 =>
if (u11 : Int32) = 1 then (
K122 1) else (
K121))))))))))) (fun K50 =>
if (u3 : Int32) = a1 then (
K50 i2_18 1) else (
K50 i2_18 0))))))) 64 0 s0_14 0) (fun K14 =>
if (u1 : Int32) < 0 then (
K14 0) else (
K14 1)))
abbrev rt_L_isRoute : Type := (Int32)
def f_L_isRoute (a1 : Int32) (a2 : Int32) (cu : CU) : Option rt_L_isRoute :=
zob (F_distance a1 a2 cu) (fun u1 =>
zob (F_shortest a1 a2 cu) (fun u2 =>
if (u2 : Int32) = (-2000) then (
zob (F_isAlive a1 cu) (fun u17 =>
zjp (T := Option rt_L_isRoute) (
some 0) (fun K67 =>
zjp (T := Option rt_L_isRoute) (
zob (F_decide a1 a2 cu) (fun u18 =>
if (u18 : Int32) = (-2000) then (
zob (F_routeLength a1 a2 cu) (fun u19 =>
if (u19 : Int32) = (-2000) then (
some 1) else (
K67))) else (
K67))) (fun K39 =>
if (u17 : Int32) = 0 then (
K39) else (
zob (F_isAlive a2 cu) (fun u20 =>
if (u20 : Int32) = 0 then (
K39) else (
K67))))))) else (
zob (F_decide a1 a2 cu) (fun u3 =>
zob (F_routeLength a1 a2 cu) (fun u4 =>
zob (F_distance a2 a1 cu) (fun u5 =>
zjp (T := Int32 → Option rt_L_isRoute) (fun (s0_153 : Int32) =>
if (u3 : Int32) = 2 then (
zjp (T := Option rt_L_isRoute) (
some 0) (fun K187 =>
if (s0_153 : Int32) = 0 then (
K187) else (
if (u4 : Int32) = (-1) then (
zob (F_routeNode a1 a2 0 cu) (fun u14 =>
if (u14 : Int32) = (-1) then (
some 1) else (
K187))) else (
K187)))) else (
zjp (T := Int32 → Option rt_L_isRoute) (fun (s0_259 : Int32) =>
zl2 (R := rt_L_isRoute) (fun k264 (i7_264 : Int32) (i8_264 : Int32) =>
if (u4 : Int32) < i8_264 then (
zgd (isb i7_264) (some i7_264)) else (
if (i7_264 : Int32) = 0 then (
zgd (isb i7_264) (some i7_264)) else (
zob (F_routeNode a1 a2 i8_264 cu) (fun u6 =>
zjp (T := Int32 → Option rt_L_isRoute) (fun (s0_326 : Int32) =>
zbd (A := Int32) (i8_264 + 1) (fun x7 =>
k264 s0_326 x7)) (fun K326 =>
zjp (T := Option rt_L_isRoute) (
K326 0) (fun K325 =>
if (u6 : Int32) < 0 then (
K325) else (
zob (F_routeNode a1 a2 (i8_264 - (1 : Int32)) cu) (fun u8 =>
zob (F_distance u6 u8 cu) (fun u9 =>
if (u9 : Int32) = 1 then (
zob (F_isAlive u6 cu) (fun u10 =>
if (u10 : Int32) = 1 then (
K326 1) else (
K325))) else (
K325)))))))))) 16 s0_259 1) (fun K259 =>
zjp (T := Option rt_L_isRoute) (
K259 0) (fun K258 =>
if (s0_153 : Int32) = 0 then (
K258) else (
if (u4 : Int32) = (u1 + ((2 : Int32) * u3)) then (
if (u2 : Int32) < 0 then (
K258) else (
if (u4 : Int32) < u2 then (
K258) else (
zob (F_routeNode a1 a2 0 cu) (fun u11 =>
if (u11 : Int32) = a1 then (
zob (F_routeNode a1 a2 u4 cu) (fun u12 =>
if (u12 : Int32) = a2 then (
zob (F_routeNode a1 a2 (u4 + (1 : Int32)) cu) (fun u13 =>
if (u13 : Int32) = (-1) then (
K259 1) else (
K258))) else (
K258))) else (
K258))))) else (
K258)))))) (fun K153 =>
zjp (T := Option rt_L_isRoute) (
K153 0) (fun K152 =>
if (u1 : Int32) = u5 then (
zob (f_L_ones (a1 ^^^ a2)) (fun u15 =>
if (u1 : Int32) = u15 then (
zob (F_shortest a2 a1 cu) (fun u16 =>
if (u2 : Int32) = u16 then (
zjp (T := Option rt_L_isRoute) (
if (u3 : Int32) < 0 then (
K152) else (
if (3 : Int32) ≤ u3 then (
K152) else (
K153 1))) (fun K137 =>
if (u2 : Int32) = (-1) then (
K137) else (
if (u2 : Int32) < u1 then (
K152) else (
if (((u2 - u1) - (u2 - u1) / (2 : Int32) * (2 : Int32)) : Int32) = 0 then (
K137) else (
K152))))) else (
K152))) else (
K152))) else (
K152)))))))))
abbrev rt_L_isBroadcast : Type := (Int32 × CU)
def f_L_isBroadcast (a1 : Int32) (a2 : Int32) (cu : CU) : Option rt_L_isBroadcast :=
zl4 (R := rt_L_isBroadcast) (fun k8 (i3_8 : Int32) (i4_8 : Int32) (i5_8 : Int32) (v_p0_S_8 : CU) =>
zjp (T := Option rt_L_isBroadcast) (
zjp (T := CU → Option rt_L_isBroadcast) (fun (v_p0_S_141 : CU) =>
some (0, v_p0_S_141)) (fun K141 =>
if (i4_8 : Int32) = 0 then (
K141 v_p0_S_8) else (
zob (F_broadcastSize a2 v_p0_S_8) (fun u1 =>
if (u1.1 : Int32) = i3_8 then (
zob (F_broadcastTime a2 a2 u1.2) (fun u2 =>
if (u2.1 : Int32) = 0 then (
zob (F_reach a2 0 u2.2) (fun u3 =>
zob (F_reach a2 1 u2.2) (fun u4 =>
zob (F_reach a2 2 u2.2) (fun u5 =>
zob (f_L_alive a1 u2.2) (fun u6 =>
if (((u3 + u4) + u5) : Int32) = (u6 - (1 : Int32)) then (
some (1, u2.2)) else (
K141 u2.2)))))) else (
K141 u2.2))) else (
K141 u1.2))))) (fun K84 =>
if (((1 : Int32) <<< (a1 &&& 31)) : Int32) ≤ i5_8 then (
K84) else (
if (i4_8 : Int32) = 0 then (
K84) else (
zob (F_broadcastTime a2 i5_8 v_p0_S_8) (fun u7 =>
zbd (A := Int32) u7.1 (fun x8 =>
zjp (T := Int32 → Option rt_L_isBroadcast) (fun (s0_63 : Int32) =>
zjp (T := Int32 → Int32 → Option rt_L_isBroadcast) (fun (s0_76 : Int32) (s1_76 : Int32) =>
zbd (A := Int32) (s0_76 + s1_76) (fun x9 =>
zbd (A := Int32) (i5_8 + 1) (fun x10 =>
k8 x9 s0_63 x10 u7.2))) (fun K76 =>
if (x8 : Int32) < 0 then (
K76 i3_8 0) else (
K76 i3_8 1))) (fun K63 =>
zjp (T := Option rt_L_isBroadcast) (
K63 1) (fun K58 =>
if (x8 : Int32) = (-1) then (
K58) else (
zob (f_L_ones (a2 ^^^ i5_8)) (fun u11 =>
zjp (T := Option rt_L_isBroadcast) (
K63 0) (fun K62 =>
if (x8 : Int32) = u11 then (
zob (F_isAlive i5_8 u7.2) (fun u12 =>
if (u12 : Int32) = 1 then (
K58) else (
K62))) else (
K62)))))))))))) 64 0 1 0 cu
abbrev rt_L_arePaths : Type := (Int32 × CU)
def f_L_arePaths (a1 : Int32) (a2 : Int32) (a3 : Int32) (cu : CU) : Option rt_L_arePaths :=
zob (F_disjointPaths a2 a3 cu) (fun u1 =>
zbd (A := Int32) u1.1 (fun x2 =>
zl3 (R := rt_L_arePaths) (fun k17 (i5_17 : Int32) (i6_17 : Int32) (i7_17 : Int32) =>
if (a1 : Int32) ≤ i7_17 then (
zob (F_disjointPaths a3 a2 u1.2) (fun u3 =>
zjp (T := Option rt_L_arePaths) (
some (0, u3.2)) (fun K138 =>
if (x2 : Int32) = u3.1 then (
if (x2 : Int32) < 0 then (
K138) else (
if (i5_17 : Int32) < x2 then (
K138) else (
if (i6_17 : Int32) < x2 then (
K138) else (
zjp (T := Int32 → Option rt_L_arePaths) (fun (s0_99 : Int32) =>
zob (F_shortest a2 a3 u3.2) (fun u4 =>
zjp (T := Int32 → Int32 → Option rt_L_arePaths) (fun (s0_114 : Int32) (s1_114 : Int32) =>
if (s0_114 : Int32) = s1_114 then (
zob (f_L_alive a1 u3.2) (fun u5 =>
zjp (T := Option rt_L_arePaths) (
some (1, u3.2)) (fun K134 =>
if (u5 : Int32) < ((1 : Int32) <<< (a1 &&& 31)) then (
K134) else (
if (x2 : Int32) = a1 then (
K134) else (
K138))))) else (
K138)) (fun K114 =>
if (u4 : Int32) = (-1) then (
K114 s0_99 1) else (
K114 s0_99 0)))) (fun K99 =>
if (x2 : Int32) = 0 then (
K99 1) else (
K99 0)))))) else (
K138)))) else (
zob (F_isAlive (a2 ^^^ ((1 : Int32) <<< (i7_17 &&& 31))) u1.2) (fun u6 =>
zbd (A := Int32) (i5_17 + u6) (fun x7 =>
zob (F_isAlive (a3 ^^^ ((1 : Int32) <<< (i7_17 &&& 31))) u1.2) (fun u8 =>
zbd (A := Int32) (i6_17 + u8) (fun x9 =>
zbd (A := Int32) (i7_17 + 1) (fun x10 =>
k17 x7 x9 x10))))))) 64 0 0 0))
abbrev rt_L_areSubcubes : Type := (Int32)
def f_L_areSubcubes (a1 : Int32) (cu : CU) : Option rt_L_areSubcubes :=
zob (f_L_alive a1 cu) (fun u1 =>
zob (F_largestSubcube cu) (fun u2 =>
zob (F_freeSubcubes 0 cu) (fun u3 =>
zjp (T := Int32 → Option rt_L_areSubcubes) (fun (s0_67 : Int32) =>
if (s0_67 : Int32) = 0 then (
zgd (isb s0_67) (some s0_67)) else (
if (0 : Int32) ≤ u2 then (
zbd (A := Int32) (u2 >>> ((6 : Int32) &&& 31)) (fun x4 =>
zbd (A := Int32) (u2 &&& (63 : Int32)) (fun x5 =>
zjp (T := Int32 → Option rt_L_areSubcubes) (fun (s0_157 : Int32) =>
zl2 (R := rt_L_areSubcubes) (fun k162 (i4_162 : Int32) (i7_162 : Int32) =>
if (((1 : Int32) <<< (a1 &&& 31)) : Int32) ≤ i7_162 then (
zgd (isb i4_162) (some i4_162)) else (
if (i4_162 : Int32) = 0 then (
zgd (isb i4_162) (some i4_162)) else (
zjp (T := Int32 → Option rt_L_areSubcubes) (fun (s0_202 : Int32) =>
zbd (A := Int32) (i7_162 + 1) (fun x6 =>
k162 s0_202 x6)) (fun K202 =>
zjp (T := Option rt_L_areSubcubes) (
K202 1) (fun K197 =>
if ((i7_162 &&& (x4 ^^^ ((-1) : Int32))) : Int32) = x5 then (
zob (F_isAlive i7_162 cu) (fun u7 =>
if (u7 : Int32) = 1 then (
K197) else (
K202 0))) else (
K197)))))) 64 s0_157 0) (fun K157 =>
zjp (T := Option rt_L_areSubcubes) (
K157 0) (fun K156 =>
if (((1 : Int32) <<< (a1 &&& 31)) : Int32) ≤ x4 then (
K156) else (
if (((1 : Int32) <<< (a1 &&& 31)) : Int32) ≤ x5 then (
K156) else (
if ((x4 &&& x5) : Int32) = 0 then (
zob (f_L_ones x4) (fun u8 =>
zob (F_freeSubcubes u8 cu) (fun u9 =>
if (u9 : Int32) ≤ 0 then (
K156) else (
zob (f_L_ones x4) (fun u10 =>
zjp (T := Option rt_L_areSubcubes) (
K157 1) (fun K152 =>
if (u10 : Int32) = a1 then (
K152) else (
zob (f_L_ones x4) (fun u11 =>
zob (F_freeSubcubes (u11 + (1 : Int32)) cu) (fun u12 =>
if (u12 : Int32) = 0 then (
K152) else (
K156)))))))))) else (
K156)))))))) else (
zgd (isb s0_67) (some s0_67)))) (fun K67 =>
zjp (T := Option rt_L_areSubcubes) (
K67 0) (fun K66 =>
if (u3 : Int32) = u1 then (
zob (F_freeSubcubes a1 cu) (fun u13 =>
zjp (T := Int32 → Int32 → Option rt_L_areSubcubes) (fun (s0_37 : Int32) (s1_37 : Int32) =>
if (s0_37 : Int32) = s1_37 then (
zjp (T := Int32 → Option rt_L_areSubcubes) (fun (s0_50 : Int32) =>
zjp (T := Int32 → Int32 → Option rt_L_areSubcubes) (fun (s0_59 : Int32) (s1_59 : Int32) =>
if (s0_59 : Int32) = s1_59 then (
K67 1) else (
K66)) (fun K59 =>
if (u1 : Int32) = 0 then (
K59 s0_50 1) else (
K59 s0_50 0))) (fun K50 =>
if (u2 : Int32) = (-1) then (
K50 1) else (
K50 0))) else (
K66)) (fun K37 =>
if (u1 : Int32) = ((1 : Int32) <<< (a1 &&& 31)) then (
K37 u13 1) else (
K37 u13 0)))) else (
K66))))))
abbrev rt_L_print : Type := (Int64)
def f_L_print (a1 : Int32) (cu : CU) : Option rt_L_print :=
zob (F_rounds cu) (fun u1 =>
zob (F_safeNodes cu) (fun u2 =>
zob (F_largestSubcube cu) (fun u3 =>
zbd (A := Int64) (((31 : Int64) * (((31 : Int64) * (u1 : Int32).toInt64) + (u2 : Int32).toInt64)) + (u3 : Int32).toInt64) (fun x4 =>
zl2 (R := rt_L_print) (fun k29 (i2_29 : Int64) (i4_29 : Int32) =>
if (((1 : Int32) <<< (a1 &&& 31)) : Int32) ≤ i4_29 then (
zl2 (R := rt_L_print) (fun k60 (i2_60 : Int64) (i4_60 : Int32) =>
if (25 : Int32) ≤ i4_60 then (
some i2_60) else (
zob (F_state i4_60 cu) (fun u5 =>
zob (F_position i4_60 cu) (fun u6 =>
zob (F_moves i4_60 cu) (fun u7 =>
zbd (A := Int64) (((31 : Int64) * (((31 : Int64) * (((31 : Int64) * i2_60) + (u5 : Int32).toInt64)) + (u6 : Int32).toInt64)) + (u7 : Int32).toInt64) (fun x8 =>
zbd (A := Int32) (i4_60 + 1) (fun x9 =>
k60 x8 x9))))))) 64 i2_29 0) else (
zob (F_level i4_29 cu) (fun u10 =>
zbd (A := Int64) (((31 : Int64) * i2_29) + (u10 : Int32).toInt64) (fun x11 =>
zbd (A := Int32) (i4_29 + 1) (fun x12 =>
k29 x11 x12))))) 64 x4 0))))
abbrev rt_L_refused : Type := (Int32 × CU)
def f_L_refused (a1 : Int32) (cu : CU) : Option rt_L_refused :=
zob (f_L_print a1 cu) (fun u1 =>
zbd (A := Int32) ((1 : Int32) <<< (a1 &&& 31)) (fun x2 =>
zob (F_setDimension (-1) cu) (fun u3 =>
zjp (T := Int32 → CU → Option rt_L_refused) (fun (s0_208 : Int32) (v_p0_S_208 : CU) =>
zjp (T := Option rt_L_refused) (
some (0, v_p0_S_208)) (fun K229 =>
if (s0_208 : Int32) = 0 then (
K229) else (
zob (f_L_print a1 v_p0_S_208) (fun u4 =>
if ((lg_cmp u4 u1) : Int32) = 0 then (
some (1, v_p0_S_208)) else (
K229))))) (fun K208 =>
zjp (T := CU → Option rt_L_refused) (fun (v_p0_S_207 : CU) =>
K208 0 v_p0_S_207) (fun K207 =>
if (u3.1 : Int32) = (-1000) then (
zob (F_kill x2 u3.2) (fun u5 =>
if (u5.1 : Int32) = (-1000) then (
zob (F_revive (-1) u5.2) (fun u6 =>
if (u6.1 : Int32) = (-1000) then (
zob (F_distance x2 0 u6.2) (fun u7 =>
if (u7 : Int32) = (-1000) then (
zob (F_level (-1) u6.2) (fun u8 =>
if (u8 : Int32) = (-1000) then (
zob (F_vectorBit 0 (a1 + (1 : Int32)) u6.2) (fun u9 =>
if (u9 : Int32) = (-1000) then (
zob (F_routeNode 0 0 (-1) u6.2) (fun u10 =>
if (u10 : Int32) = (-1000) then (
zob (F_reach 0 (-1) u6.2) (fun u11 =>
if (u11 : Int32) = (-1000) then (
zob (F_freeSubcubes (a1 + (1 : Int32)) u6.2) (fun u12 =>
if (u12 : Int32) = (-1000) then (
zob (F_disjointPaths 0 0 u6.2) (fun u13 =>
if (u13.1 : Int32) = (-1000) then (
zob (F_send 0 x2 u13.2) (fun u14 =>
if (u14.1 : Int32) = (-1000) then (
zob (F_step 0 u14.2) (fun u15 =>
if (u15.1 : Int32) = (-1000) then (
zob (F_state 24 u15.2) (fun u16 =>
if (u16 : Int32) = (-1000) then (
zob (F_position (-1) u15.2) (fun u17 =>
if (u17 : Int32) = (-1000) then (
zob (F_moves 24 u15.2) (fun u18 =>
if (u18 : Int32) = (-1000) then (
zob (F_count 3 u15.2) (fun u19 =>
if (u19 : Int32) = (-1000) then (
K208 1 u15.2) else (
K207 u15.2))) else (
K207 u15.2))) else (
K207 u15.2))) else (
K207 u15.2))) else (
K207 u15.2))) else (
K207 u14.2))) else (
K207 u13.2))) else (
K207 u6.2))) else (
K207 u6.2))) else (
K207 u6.2))) else (
K207 u6.2))) else (
K207 u6.2))) else (
K207 u6.2))) else (
K207 u6.2))) else (
K207 u5.2))) else (
K207 u3.2))))))
