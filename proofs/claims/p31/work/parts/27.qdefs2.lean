abbrev rt_L_law : Type := (Int32)
def f_L_law (L : Nat) (xs : Nat → Int32) (a2 : Int32) (c_bg : Nat → Int32) (cu : CU) : Option rt_L_law :=
zob (F_undo cu) (fun u1 =>
zjp (T := Int32 → CU → Option rt_L_law) (fun (s0_60 : Int32) (v_o_S_60 : CU) =>
zl5 (R := rt_L_law) (fun k65 (i4_65 : Int32) (i5_65 : Int32) (i6_65 : Int32) (c_bg_65 : (Nat → Int32)) (v_o_S_65 : CU) =>
if (36 : Int32) ≤ i6_65 then (
some i5_65) else (
if (i5_65 : Int32) = 0 then (
some i5_65) else (
zob (f_L_cell L ((1 : Int32) + i6_65) xs) (fun u2 =>
zob (f_L_low (u2 >>> ((6 : Int32) &&& 31)) ((1 : Int32) <<< (a2 &&& 31))) (fun u3 =>
zob (f_L_low (u2 >>> ((12 : Int32) &&& 31)) ((1 : Int32) <<< (a2 &&& 31))) (fun u4 =>
zob (f_L_print a2 v_o_S_65) (fun u5 =>
zob (F_isAlive u3 v_o_S_65) (fun u6 =>
zjp (T := Int32 → Option rt_L_law) (fun (s0_135 : Int32) =>
zjp (T := Int32 → Option rt_L_law) (fun (s0_157 : Int32) =>
zob (f_L_low u2 8) (fun u7 =>
zjp (T := Int32 → Int32 → Int32 → Int32 → (Nat → Int32) → CU → Option rt_L_law) (fun (i4_516 : Int32) (i5_516 : Int32) (i14_516 : Int32) (i15_516 : Int32) (c_bg_516 : (Nat → Int32)) (v_o_S_516 : CU) =>
zjp (T := Int32 → Int32 → CU → Option rt_L_law) (fun (i4_569 : Int32) (i5_569 : Int32) (v_o_S_569 : CU) =>
zjp (T := Int32 → Option rt_L_law) (fun (s0_617 : Int32) =>
zl2 (R := rt_L_law) (fun k622 (i5_622 : Int32) (i16_622 : Int32) =>
zjp (T := Option rt_L_law) (
zjp (T := Int32 → CU → Option rt_L_law) (fun (s0_767 : Int32) (v_o_S_767 : CU) =>
zjp (T := Int32 → CU → Option rt_L_law) (fun (s0_841 : Int32) (v_o_S_841 : CU) =>
zbd (A := Int32) (i6_65 + 1) (fun x8 =>
k65 i4_569 s0_841 x8 c_bg_516 v_o_S_841)) (fun K841 =>
zjp (T := CU → Option rt_L_law) (fun (v_o_S_840 : CU) =>
K841 0 v_o_S_840) (fun K840 =>
if (s0_767 : Int32) = 0 then (
K840 v_o_S_767) else (
zjp (T := CU → Option rt_L_law) (fun (v_o_S_819 : CU) =>
zjp (T := CU → Option rt_L_law) (fun (v_o_S_836 : CU) =>
K841 1 v_o_S_836) (fun K836 =>
if ((i6_65 - i6_65 / (11 : Int32) * (11 : Int32)) : Int32) = 4 then (
zob (f_L_refused a2 v_o_S_819) (fun u9 =>
if (u9.1 : Int32) = 0 then (
K840 u9.2) else (
K836 u9.2))) else (
K836 v_o_S_819))) (fun K819 =>
if ((i6_65 - i6_65 / (3 : Int32) * (3 : Int32)) : Int32) = 1 then (
if (u3 : Int32) = u4 then (
K819 v_o_S_767) else (
zob (F_isAlive u3 v_o_S_767) (fun u10 =>
if (u10 : Int32) = 0 then (
K819 v_o_S_767) else (
zob (F_isAlive u4 v_o_S_767) (fun u11 =>
if (u11 : Int32) = 0 then (
K819 v_o_S_767) else (
zob (f_L_arePaths a2 u3 u4 v_o_S_767) (fun u12 =>
if (u12.1 : Int32) = 0 then (
K840 u12.2) else (
K819 u12.2)))))))) else (
K819 v_o_S_767)))))) (fun K767 =>
zjp (T := CU → Option rt_L_law) (fun (v_o_S_766 : CU) =>
K767 0 v_o_S_766) (fun K766 =>
if (i5_622 : Int32) = 0 then (
K766 v_o_S_569) else (
zob (f_L_isRoute u3 u4 v_o_S_569) (fun u13 =>
if (u13 : Int32) = 0 then (
K766 v_o_S_569) else (
zjp (T := Option rt_L_law) (
zjp (T := CU → Option rt_L_law) (fun (v_o_S_762 : CU) =>
K767 1 v_o_S_762) (fun K762 =>
if ((i6_65 - i6_65 / (3 : Int32) * (3 : Int32)) : Int32) = 0 then (
zob (F_isAlive u3 v_o_S_569) (fun u14 =>
if (u14 : Int32) = 0 then (
K762 v_o_S_569) else (
zob (f_L_isBroadcast a2 u3 v_o_S_569) (fun u15 =>
if (u15.1 : Int32) = 0 then (
K766 u15.2) else (
K762 u15.2))))) else (
K762 v_o_S_569))) (fun K736 =>
if ((i6_65 - i6_65 / (4 : Int32) * (4 : Int32)) : Int32) = 2 then (
zob (f_L_areLevels a2 v_o_S_569) (fun u16 =>
if (u16 : Int32) = 0 then (
K766 v_o_S_569) else (
zob (f_L_areSubcubes a2 v_o_S_569) (fun u17 =>
if (u17 : Int32) = 0 then (
K766 v_o_S_569) else (
K736))))) else (
K736)))))))) (fun K696 =>
if (i4_569 : Int32) ≤ i16_622 then (
K696) else (
if (i5_622 : Int32) = 0 then (
K696) else (
zob (F_moves i16_622 v_o_S_569) (fun u18 =>
zgd (inb i16_622 24) (
zob (F_position i16_622 v_o_S_569) (fun u20 =>
zob (f_L_ones ((c_bg_516 (i16_622 : Int32).toNatClampNeg) ^^^ u20)) (fun u21 =>
zjp (T := Int32 → Option rt_L_law) (fun (s0_688 : Int32) =>
zbd (A := Int32) (i16_622 + 1) (fun x22 =>
k622 s0_688 x22)) (fun K688 =>
zjp (T := Option rt_L_law) (
K688 0) (fun K687 =>
if (((u18 - u21) - (u18 - u21) / (2 : Int32) * (2 : Int32)) : Int32) = 0 then (
zob (F_moves i16_622 v_o_S_569) (fun u23 =>
zgd (inb i16_622 24) (
zob (F_position i16_622 v_o_S_569) (fun u25 =>
zob (f_L_ones ((c_bg_516 (i16_622 : Int32).toNatClampNeg) ^^^ u25)) (fun u26 =>
if (u23 : Int32) < u26 then (
K687) else (
K688 1)))))) else (
K687))))))))))) 32 s0_617 0) (fun K617 =>
zjp (T := Option rt_L_law) (
K617 0) (fun K616 =>
if (i5_569 : Int32) = 0 then (
K616) else (
zjp (T := Option rt_L_law) (
zob (F_count 0 v_o_S_569) (fun u27 =>
zob (F_count 1 v_o_S_569) (fun u28 =>
zob (F_count 2 v_o_S_569) (fun u29 =>
if (((u27 + u28) + u29) : Int32) = i4_569 then (
K617 1) else (
K616))))) (fun K590 =>
if (0 : Int32) ≤ i14_516 then (
K590) else (
zob (f_L_print a2 v_o_S_569) (fun u30 =>
if ((lg_cmp u30 u5) : Int32) = 0 then (
K590) else (
K616)))))))) (fun K569 =>
if (i5_516 : Int32) = 0 then (
K569 i4_516 i5_516 v_o_S_516) else (
if (i14_516 : Int32) < 0 then (
K569 i4_516 i5_516 v_o_S_516) else (
if (((u2 >>> ((26 : Int32) &&& 31)) &&& (7 : Int32)) : Int32) = 0 then (
zob (F_undo v_o_S_516) (fun u31 =>
zjp (T := Int32 → Option rt_L_law) (fun (s0_560 : Int32) =>
zbd (A := Int32) (i4_516 - i15_516) (fun x32 =>
K569 x32 s0_560 u31.2)) (fun K560 =>
zjp (T := Option rt_L_law) (
K560 0) (fun K559 =>
if (u31.1 : Int32) < 0 then (
K559) else (
zob (f_L_print a2 u31.2) (fun u33 =>
if ((lg_cmp u33 u5) : Int32) = 0 then (
K560 1) else (
K559))))))) else (
K569 i4_516 i5_516 v_o_S_516))))) (fun K516 =>
zjp (T := Option rt_L_law) (
zob (F_kill u3 v_o_S_65) (fun u34 =>
zbd (A := Int32) u34.1 (fun x35 =>
zjp (T := Int32 → Option rt_L_law) (fun (s0_263 : Int32) =>
K516 i4_65 s0_263 x35 0 c_bg_65 u34.2) (fun K263 =>
if (s0_135 : Int32) = 0 then (
if (x35 : Int32) = (-2000) then (
K263 1) else (
K263 0)) else (
zjp (T := Option rt_L_law) (
K263 0) (fun K246 =>
if (x35 : Int32) < 0 then (
K246) else (
zob (F_isAlive u3 u34.2) (fun u36 =>
if (u36 : Int32) = 0 then (
if (i4_65 : Int32) < x35 then (
K246) else (
K263 1)) else (
K246))))))))) (fun K208 =>
zjp (T := Option rt_L_law) (
zob (F_send u3 u4 v_o_S_65) (fun u37 =>
zbd (A := Int32) u37.1 (fun x38 =>
zjp (T := Int32 → Int32 → Option rt_L_law) (fun (s0_363 : Int32) (s1_363 : Int32) =>
zjp (T := Int32 → Option rt_L_law) (fun (s0_371 : Int32) =>
zjp (T := Int32 → Option rt_L_law) (fun (s0_383 : Int32) =>
if (s0_383 : Int32) = 1 then (
zgd (inb i4_65 24) (
zbd (A := (Nat → Int32)) (upd c_bg_65 (i4_65 : Int32).toNatClampNeg u3) (fun y40 =>
zbd (A := Int32) (i4_65 + 1) (fun x41 =>
zjp (T := Int32 → Option rt_L_law) (fun (s0_451 : Int32) =>
K516 x41 s0_451 x38 s0_383 y40 u37.2) (fun K451 =>
zjp (T := Option rt_L_law) (
K451 0) (fun K450 =>
if (s0_371 : Int32) = 0 then (
K450) else (
zob (F_state x38 u37.2) (fun u42 =>
zjp (T := Int32 → Int32 → Option rt_L_law) (fun (s0_423 : Int32) (s1_423 : Int32) =>
if (s0_423 : Int32) = s1_423 then (
zob (F_position x38 u37.2) (fun u43 =>
if (u43 : Int32) = u3 then (
zob (F_moves x38 u37.2) (fun u44 =>
if (u44 : Int32) = 0 then (
K451 1) else (
K450))) else (
K450))) else (
K450)) (fun K423 =>
if (u3 : Int32) = u4 then (
K423 u42 1) else (
K423 u42 0)))))))))) else (
K516 i4_65 s0_371 x38 s0_383 c_bg_65 u37.2)) (fun K383 =>
if (x38 : Int32) < 0 then (
K383 0) else (
K383 1))) (fun K371 =>
if (s0_363 : Int32) = s1_363 then (
K371 1) else (
K371 0))) (fun K363 =>
zjp (T := Int32 → Option rt_L_law) (fun (s0_360 : Int32) =>
K363 s0_360 (-2000)) (fun K360 =>
if (s0_157 : Int32) = 0 then (
K360 x38) else (
if (24 : Int32) ≤ i4_65 then (
K360 x38) else (
K363 x38 i4_65))))))) (fun K331 =>
if (u7 : Int32) = 0 then (
K208) else (
if (u7 : Int32) = 1 then (
K208) else (
if (u7 : Int32) = 2 then (
zob (F_revive u3 v_o_S_65) (fun u45 =>
zbd (A := Int32) u45.1 (fun x46 =>
zjp (T := Int32 → Option rt_L_law) (fun (s0_326 : Int32) =>
K516 i4_65 s0_326 x46 0 c_bg_65 u45.2) (fun K326 =>
if (s0_135 : Int32) = 0 then (
zob (f_L_alive a2 u45.2) (fun u47 =>
zjp (T := Option rt_L_law) (
K326 0) (fun K325 =>
if (x46 : Int32) = (((1 : Int32) <<< (a2 &&& 31)) - u47) then (
zob (F_isAlive u3 u45.2) (fun u48 =>
if (u48 : Int32) = 1 then (
K326 1) else (
K325))) else (
K325)))) else (
if (x46 : Int32) = (-2000) then (
K326 1) else (
K326 0)))))) else (
if (u7 : Int32) = 3 then (
K331) else (
if (u7 : Int32) = 4 then (
K331) else (
zob (F_count 0 v_o_S_65) (fun u49 =>
zob (f_L_low (u2 >>> ((18 : Int32) &&& 31)) 3) (fun u50 =>
zbd (A := Int32) ((1 : Int32) + u50) (fun x51 =>
zob (F_step x51 v_o_S_65) (fun u52 =>
zbd (A := Int32) u52.1 (fun x53 =>
zjp (T := Int32 → Option rt_L_law) (fun (s0_514 : Int32) =>
K516 i4_65 s0_514 x53 0 c_bg_65 u52.2) (fun K514 =>
zjp (T := Option rt_L_law) (
K514 0) (fun K513 =>
if (x53 : Int32) < 0 then (
K513) else (
if ((x51 * u49) : Int32) < x53 then (
K513) else (
zob (F_count 0 u52.2) (fun u54 =>
if (u49 : Int32) < u54 then (
K513) else (
K514 1))))))))))))))))))))) (fun K157 =>
zjp (T := Option rt_L_law) (
K157 0) (fun K156 =>
if (s0_135 : Int32) = 0 then (
K156) else (
zob (F_isAlive u4 v_o_S_65) (fun u55 =>
if (u55 : Int32) = 1 then (
K157 1) else (
K156)))))) (fun K135 =>
if (u6 : Int32) = 1 then (
K135 1) else (
K135 0)))))))))) 40 0 s0_60 0 c_bg v_o_S_60) (fun K60 =>
zjp (T := CU → Option rt_L_law) (fun (v_o_S_59 : CU) =>
K60 0 v_o_S_59) (fun K59 =>
if (u1.1 : Int32) = (-2000) then (
zob (F_setDimension a2 u1.2) (fun u56 =>
if (u56.1 : Int32) = 4 then (
zob (f_L_refused a2 u56.2) (fun u57 =>
if (u57.1 : Int32) = 0 then (
K59 u57.2) else (
K60 1 u57.2))) else (
K59 u56.2))) else (
K59 u1.2))))
