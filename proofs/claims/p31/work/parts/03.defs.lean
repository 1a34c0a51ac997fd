abbrev rt_J7_fill_53178 : Type := ((Nat → Int32))
def f_J7_fill_53178 (n_p0 : Nat) (a1 : Int32) (c_p0 : (Nat → Int32)) : Option rt_J7_fill_53178 :=
zbd (A := Int32) (Int32.ofNat n_p0) (fun x1 =>
zl2 (R := rt_J7_fill_53178) (fun k5 (i2_5 : Int32) (c_p0_5 : (Nat → Int32)) =>
if (x1 : Int32) ≤ i2_5 then (
some c_p0_5) else (
zgd (inb i2_5 n_p0) (
zbd (A := (Nat → Int32)) (upd c_p0_5 (i2_5 : Int32).toNatClampNeg a1) (fun y3 =>
zbd (A := Int32) (i2_5 + 1) (fun x4 =>
k5 x4 y3))))) zfu 0 c_p0)
abbrev rt_X2_spareOf : Type := (Int32)
def f_X2_spareOf (a1 : Int32) (v_this_dimension : Int32) : Option rt_X2_spareOf :=
some ((((1 : Int32) <<< (v_this_dimension &&& 31)) - (1 : Int32)) &&& (a1 ^^^ ((-1) : Int32)))
abbrev rt_X6_write : Type := ((Nat → Int32))
def f_X6_write (n_p0 : Nat) (a1 : Int32) (a2 : Int32) (c_p0 : (Nat → Int32)) : Option rt_X6_write :=
if (a1 : Int32) < 0 then (
some c_p0) else (
if ((Int32.ofNat n_p0) : Int32) ≤ a1 then (
some c_p0) else (
zgd (inb a1 n_p0) (
zbd (A := (Nat → Int32)) (upd c_p0 (a1 : Int32).toNatClampNeg a2) (fun y2 =>
some y2))))
abbrev rt_X0_receive : Type := (Int32 × (Nat → Int32) × (Nat → Int32) × (Nat → Int32))
def f_X0_receive (a1 : Int32) (a2 : Int32) (a3 : Int32) (v_this_receivers : Int32) (c_this_times : (Nat → Int32)) (c_this_lists : (Nat → Int32)) (c_this_queue : (Nat → Int32)) : Option rt_X0_receive :=
zob (f_X6_write 64 a1 a2 c_this_times) (fun u1 =>
zob (f_X6_write 64 a1 a3 c_this_lists) (fun u2 =>
zob (f_X6_write 64 v_this_receivers a1 c_this_queue) (fun u3 =>
zbd (A := Int32) (v_this_receivers + (1 : Int32)) (fun x4 =>
some (x4, u1, u2, u3)))))
abbrev rt_X6_read : Type := (Int32)
def f_X6_read (n_p0 : Nat) (a1 : Int32) (c_p0 : (Nat → Int32)) : Option rt_X6_read :=
zjp (T := Option rt_X6_read) (
some 0) (fun K16 =>
if (a1 : Int32) < 0 then (
K16) else (
if ((Int32.ofNat n_p0) : Int32) ≤ a1 then (
K16) else (
zgd (inb a1 n_p0) (
some (c_p0 (a1 : Int32).toNatClampNeg)))))
abbrev rt_X6_hasBit : Type := (Int32)
def f_X6_hasBit (a0 : Int32) (a1 : Int32) : Option rt_X6_hasBit :=
if (((j_iushr a0 a1) &&& (1 : Int32)) : Int32) = 1 then (
some 1) else (
some 0)
abbrev rt_X6_neighbour : Type := (Int32)
def f_X6_neighbour (a0 : Int32) (a1 : Int32) : Option rt_X6_neighbour :=
some (a0 ^^^ ((1 : Int32) <<< (a1 &&& 31)))
abbrev rt_X2_levelOf : Type := (Int32)
def f_X2_levelOf (a1 : Int32) (c_this_levels : (Nat → Int32)) : Option rt_X2_levelOf :=
zob (f_X6_read 64 a1 c_this_levels) (fun u1 =>
some u1)
abbrev rt_X2_bestDimension : Type := (Int32)
def f_X2_bestDimension (a1 : Int32) (a2 : Int32) (v_this_dimension : Int32) (c_this_levels : (Nat → Int32)) : Option rt_X2_bestDimension :=
zbd (A := Int32) (-1) (fun x1 =>
zbd (A := Int32) (-1) (fun x2 =>
zl3 (R := rt_X2_bestDimension) (fun k8 (i3_8 : Int32) (i4_8 : Int32) (i5_8 : Int32) =>
if (v_this_dimension : Int32) ≤ i5_8 then (
some i3_8) else (
zob (f_X6_hasBit a2 i5_8) (fun u3 =>
zjp (T := Int32 → Int32 → Option rt_X2_bestDimension) (fun (i3_56 : Int32) (i4_56 : Int32) =>
zbd (A := Int32) (i5_8 + 1) (fun x4 =>
k8 i3_56 i4_56 x4)) (fun K56 =>
if (u3 : Int32) = 0 then (
K56 i3_8 i4_8) else (
zob (f_X6_neighbour a1 i5_8) (fun u5 =>
zob (f_X2_levelOf u5 c_this_levels) (fun u6 =>
if (u6 : Int32) ≤ i4_8 then (
K56 i3_8 i4_8) else (
zob (f_X6_neighbour a1 i5_8) (fun u7 =>
zob (f_X2_levelOf u7 c_this_levels) (fun u8 =>
K56 i5_8 u8)))))))))) zfu x1 x2 0))
abbrev rt_X6_contains : Type := (Int32)
def f_X6_contains (a0 : Int64) (a2 : Int32) : Option rt_X6_contains :=
if ((lg_cmp ((j_lushr a0 a2) &&& (1 : Int64)) 1) : Int32) = 0 then (
some 1) else (
some 0)
abbrev rt_X0_timeOf : Type := (Int32)
def f_X0_timeOf (a1 : Int32) (c_this_times : (Nat → Int32)) : Option rt_X0_timeOf :=
zob (f_X6_read 64 a1 c_this_times) (fun u1 =>
some u1)
abbrev rt_X0_passOn : Type := (Int32 × (Nat → Int32) × (Nat → Int32) × (Nat → Int32))
def f_X0_passOn (a1 : Int32) (a2 : Int64) (v_this_receivers : Int32) (c_this_times : (Nat → Int32)) (c_this_lists : (Nat → Int32)) (c_this_queue : (Nat → Int32)) (v_p4_dimension : Int32) (c_p4_levels : (Nat → Int32)) : Option rt_X0_passOn :=
zob (f_X6_read 64 a1 c_this_lists) (fun u1 =>
zl6 (R := rt_X0_passOn) (fun k13 (i5_13 : Int32) (i6_13 : Int32) (v_this_receivers_13 : Int32) (c_this_times_13 : (Nat → Int32)) (c_this_lists_13 : (Nat → Int32)) (c_this_queue_13 : (Nat → Int32)) =>
if (6 : Int32) ≤ i6_13 then (
some (v_this_receivers_13, c_this_times_13, c_this_lists_13, c_this_queue_13)) else (
if (i5_13 : Int32) = 0 then (
some (v_this_receivers_13, c_this_times_13, c_this_lists_13, c_this_queue_13)) else (
zob (f_X2_bestDimension a1 i5_13 v_p4_dimension c_p4_levels) (fun u2 =>
zbd (A := Int32) (i5_13 &&& (((1 : Int32) <<< (u2 &&& 31)) ^^^ ((-1) : Int32))) (fun x3 =>
zob (f_X6_neighbour a1 u2) (fun u4 =>
zob (f_X6_contains a2 u4) (fun u5 =>
zjp (T := Int32 → (Nat → Int32) → (Nat → Int32) → (Nat → Int32) → Option rt_X0_passOn) (fun (v_this_receivers_78 : Int32) (c_this_times_78 : (Nat → Int32)) (c_this_lists_78 : (Nat → Int32)) (c_this_queue_78 : (Nat → Int32)) =>
zbd (A := Int32) (i6_13 + 1) (fun x6 =>
k13 x3 x6 v_this_receivers_78 c_this_times_78 c_this_lists_78 c_this_queue_78)) (fun K78 =>
if (u5 : Int32) = 0 then (
K78 v_this_receivers_13 c_this_times_13 c_this_lists_13 c_this_queue_13) else (
zob (f_X0_timeOf a1 c_this_times_13) (fun u7 =>
zob (f_X0_receive u4 (u7 + (1 : Int32)) x3 v_this_receivers_13 c_this_times_13 c_this_lists_13 c_this_queue_13) (fun u8 =>
K78 u8.1 u8.2.1 u8.2.2.1 u8.2.2.2))))))))))) zfu u1 0 v_this_receivers c_this_times c_this_lists c_this_queue)
abbrev rt_X0_run : Type := (Int32 × (Nat → Int32) × (Nat → Int32) × (Nat → Int32))
def f_X0_run (a1 : Int32) (a2 : Int64) (v_this_receivers : Int32) (c_this_times : (Nat → Int32)) (c_this_lists : (Nat → Int32)) (c_this_queue : (Nat → Int32)) (v_p4_dimension : Int32) (c_p4_levels : (Nat → Int32)) : Option rt_X0_run :=
zob (f_J7_fill_53178 64 (-1) c_this_times) (fun u1 =>
zob (f_X2_spareOf 0 v_p4_dimension) (fun u2 =>
zob (f_X0_receive a1 0 u2 0 u1 c_this_lists c_this_queue) (fun u3 =>
zl5 (R := rt_X0_run) (fun k28 (i5_28 : Int32) (v_this_receivers_28 : Int32) (c_this_times_28 : (Nat → Int32)) (c_this_lists_28 : (Nat → Int32)) (c_this_queue_28 : (Nat → Int32)) =>
if (v_this_receivers_28 : Int32) ≤ i5_28 then (
some (v_this_receivers_28, c_this_times_28, c_this_lists_28, c_this_queue_28)) else (
if (64 : Int32) ≤ i5_28 then (
some (v_this_receivers_28, c_this_times_28, c_this_lists_28, c_this_queue_28)) else (
zob (f_X6_read 64 i5_28 c_this_queue_28) (fun u4 =>
zob (f_X0_passOn u4 a2 v_this_receivers_28 c_this_times_28 c_this_lists_28 c_this_queue_28 v_p4_dimension c_p4_levels) (fun u5 =>
zbd (A := Int32) (i5_28 + 1) (fun x6 =>
k28 x6 u5.1 u5.2.1 u5.2.2.1 u5.2.2.2)))))) zfu 0 u3.1 u3.2.1 u3.2.2.1 u3.2.2.2)))
abbrev rt_X1_exit : Type := (Int32)
def f_X1_exit (a0 : Int32) : Option rt_X1_exit :=
some (((2 : Int32) * a0) + (1 : Int32))
abbrev rt_X1_discover : Type := (Int32 × (Nat → Int32) × (Nat → Int32))
def f_X1_discover (a1 : Int32) (a2 : Int32) (v_this_found : Int32) (c_this_cameFrom : (Nat → Int32)) (c_this_queue : (Nat → Int32)) : Option rt_X1_discover :=
zob (f_X6_read 128 a1 c_this_cameFrom) (fun u1 =>
if (u1 : Int32) = (-1) then (
zob (f_X6_write 128 a1 a2 c_this_cameFrom) (fun u2 =>
zob (f_X6_write 128 v_this_found a1 c_this_queue) (fun u3 =>
zbd (A := Int32) (v_this_found + (1 : Int32)) (fun x4 =>
some (x4, u2, u3))))) else (
some (v_this_found, c_this_cameFrom, c_this_queue)))
abbrev rt_X1_entry : Type := (Int32)
def f_X1_entry (a0 : Int32) : Option rt_X1_entry :=
some ((2 : Int32) * a0)
abbrev rt_X1_searchFromExit : Type := (Int32 × (Nat → Int32) × (Nat → Int32))
def f_X1_searchFromExit (a1 : Int32) (v_this_found : Int32) (v_this_source : Int32) (v_this_dimension : Int32) (v_this_alive : Int64) (c_this_leaving : (Nat → Int32)) (c_this_cameFrom : (Nat → Int32)) (c_this_queue : (Nat → Int32)) : Option rt_X1_searchFromExit :=
zob (f_X6_read 64 a1 c_this_leaving) (fun u1 =>
zl4 (R := rt_X1_searchFromExit) (fun k11 (i3_11 : Int32) (v_this_found_11 : Int32) (c_this_cameFrom_11 : (Nat → Int32)) (c_this_queue_11 : (Nat → Int32)) =>
if (v_this_dimension : Int32) ≤ i3_11 then (
if (a1 : Int32) = v_this_source then (
some (v_this_found_11, c_this_cameFrom_11, c_this_queue_11)) else (
if (u1 : Int32) = 0 then (
some (v_this_found_11, c_this_cameFrom_11, c_this_queue_11)) else (
zob (f_X1_entry a1) (fun u2 =>
zob (f_X1_exit a1) (fun u3 =>
zob (f_X1_discover u2 u3 v_this_found_11 c_this_cameFrom_11 c_this_queue_11) (fun u4 =>
some (u4.1, u4.2.1, u4.2.2))))))) else (
zob (f_X6_neighbour a1 i3_11) (fun u5 =>
zob (f_X6_hasBit u1 i3_11) (fun u6 =>
zjp (T := Int32 → (Nat → Int32) → (Nat → Int32) → Option rt_X1_searchFromExit) (fun (v_this_found_68 : Int32) (c_this_cameFrom_68 : (Nat → Int32)) (c_this_queue_68 : (Nat → Int32)) =>
zbd (A := Int32) (i3_11 + 1) (fun x7 =>
k11 x7 v_this_found_68 c_this_cameFrom_68 c_this_queue_68)) (fun K68 =>
if (u6 : Int32) = 0 then (
if (u5 : Int32) = v_this_source then (
K68 v_this_found_11 c_this_cameFrom_11 c_this_queue_11) else (
zob (f_X6_contains v_this_alive u5) (fun u8 =>
if (u8 : Int32) = 0 then (
K68 v_this_found_11 c_this_cameFrom_11 c_this_queue_11) else (
zob (f_X1_entry u5) (fun u9 =>
zob (f_X1_exit a1) (fun u10 =>
zob (f_X1_discover u9 u10 v_this_found_11 c_this_cameFrom_11 c_this_queue_11) (fun u11 =>
K68 u11.1 u11.2.1 u11.2.2))))))) else (
K68 v_this_found_11 c_this_cameFrom_11 c_this_queue_11)))))) zfu 0 v_this_found c_this_cameFrom c_this_queue)
abbrev rt_X1_searchFromEntry : Type := (Int32 × (Nat → Int32) × (Nat → Int32))
def f_X1_searchFromEntry (a1 : Int32) (v_this_found : Int32) (v_this_dimension : Int32) (c_this_leaving : (Nat → Int32)) (c_this_cameFrom : (Nat → Int32)) (c_this_queue : (Nat → Int32)) : Option rt_X1_searchFromEntry :=
zob (f_X6_read 64 a1 c_this_leaving) (fun u1 =>
zjp (T := Int32 → (Nat → Int32) → (Nat → Int32) → Option rt_X1_searchFromEntry) (fun (v_this_found_23 : Int32) (c_this_cameFrom_23 : (Nat → Int32)) (c_this_queue_23 : (Nat → Int32)) =>
zl4 (R := rt_X1_searchFromEntry) (fun k25 (i2_25 : Int32) (v_this_found_25 : Int32) (c_this_cameFrom_25 : (Nat → Int32)) (c_this_queue_25 : (Nat → Int32)) =>
if (v_this_dimension : Int32) ≤ i2_25 then (
some (v_this_found_25, c_this_cameFrom_25, c_this_queue_25)) else (
zob (f_X6_neighbour a1 i2_25) (fun u2 =>
zob (f_X6_read 64 u2 c_this_leaving) (fun u3 =>
zob (f_X6_hasBit u3 i2_25) (fun u4 =>
zjp (T := Int32 → (Nat → Int32) → (Nat → Int32) → Option rt_X1_searchFromEntry) (fun (v_this_found_66 : Int32) (c_this_cameFrom_66 : (Nat → Int32)) (c_this_queue_66 : (Nat → Int32)) =>
zbd (A := Int32) (i2_25 + 1) (fun x5 =>
k25 x5 v_this_found_66 c_this_cameFrom_66 c_this_queue_66)) (fun K66 =>
if (u4 : Int32) = 0 then (
K66 v_this_found_25 c_this_cameFrom_25 c_this_queue_25) else (
zob (f_X1_exit u2) (fun u6 =>
zob (f_X1_entry a1) (fun u7 =>
zob (f_X1_discover u6 u7 v_this_found_25 c_this_cameFrom_25 c_this_queue_25) (fun u8 =>
K66 u8.1 u8.2.1 u8.2.2)))))))))) zfu 0 v_this_found_23 c_this_cameFrom_23 c_this_queue_23) (fun K23 =>
if (u1 : Int32) = 0 then (
zob (f_X1_exit a1) (fun u9 =>
zob (f_X1_entry a1) (fun u10 =>
zob (f_X1_discover u9 u10 v_this_found c_this_cameFrom c_this_queue) (fun u11 =>
K23 u11.1 u11.2.1 u11.2.2)))) else (
K23 v_this_found c_this_cameFrom c_this_queue)))
abbrev rt_X1_findsPath : Type := (Int32 × Int32 × (Nat → Int32) × (Nat → Int32))
def f_X1_findsPath (v_this_found : Int32) (v_this_source : Int32) (v_this_goal : Int32) (v_this_dimension : Int32) (v_this_alive : Int64) (c_this_leaving : (Nat → Int32)) (c_this_cameFrom : (Nat → Int32)) (c_this_queue : (Nat → Int32)) : Option rt_X1_findsPath :=
zob (f_J7_fill_53178 128 (-1) c_this_cameFrom) (fun u1 =>
zob (f_X1_exit v_this_source) (fun u2 =>
zob (f_X1_exit v_this_source) (fun u3 =>
zob (f_X1_discover u2 u3 0 u1 c_this_queue) (fun u4 =>
zl4 (R := rt_X1_findsPath) (fun k33 (i1_33 : Int32) (v_this_found_33 : Int32) (c_this_cameFrom_33 : (Nat → Int32)) (c_this_queue_33 : (Nat → Int32)) =>
if (v_this_found_33 : Int32) ≤ i1_33 then (
some (0, v_this_found_33, c_this_cameFrom_33, c_this_queue_33)) else (
if (128 : Int32) ≤ i1_33 then (
some (0, v_this_found_33, c_this_cameFrom_33, c_this_queue_33)) else (
zgd (inb i1_33 128) (
zbd (A := Int32) (c_this_queue_33 (i1_33 : Int32).toNatClampNeg) (fun x6 =>
zob (f_X1_entry v_this_goal) (fun u7 =>
if (x6 : Int32) = u7 then (
some (1, v_this_found_33, c_this_cameFrom_33, c_this_queue_33)) else (
zob (f_X1_entry (x6 / (2 : Int32))) (fun u8 =>
zjp (T := Int32 → (Nat → Int32) → (Nat → Int32) → Option rt_X1_findsPath) (fun (v_this_found_97 : Int32) (c_this_cameFrom_97 : (Nat → Int32)) (c_this_queue_97 : (Nat → Int32)) =>
zbd (A := Int32) (i1_33 + 1) (fun x9 =>
k33 x9 v_this_found_97 c_this_cameFrom_97 c_this_queue_97)) (fun K97 =>
if (x6 : Int32) = u8 then (
zob (f_X1_searchFromEntry (x6 / (2 : Int32)) v_this_found_33 v_this_dimension c_this_leaving c_this_cameFrom_33 c_this_queue_33) (fun u11 =>
K97 u11.1 u11.2.1 u11.2.2)) else (
zob (f_X1_searchFromExit (x6 / (2 : Int32)) v_this_found_33 v_this_source v_this_dimension v_this_alive c_this_leaving c_this_cameFrom_33 c_this_queue_33) (fun u10 =>
K97 u10.1 u10.2.1 u10.2.2))))))))))) zfu 0 u4.1 u4.2.1 u4.2.2))))
abbrev rt_X1_addPath : Type := ((Nat → Int32))
def f_X1_addPath (v_this_source : Int32) (v_this_goal : Int32) (c_this_leaving : (Nat → Int32)) (c_this_cameFrom : (Nat → Int32)) : Option rt_X1_addPath :=
zob (f_X1_entry v_this_goal) (fun u1 =>
zl3 (R := rt_X1_addPath) (fun k10 (i1_10 : Int32) (i2_10 : Int32) (c_this_leaving_10 : (Nat → Int32)) =>
if (128 : Int32) ≤ i2_10 then (
some c_this_leaving_10) else (
zob (f_X1_exit v_this_source) (fun u2 =>
if (i1_10 : Int32) = u2 then (
some c_this_leaving_10) else (
zob (f_X6_read 128 i1_10 c_this_cameFrom) (fun u3 =>
zbd (A := Int32) (i1_10 / (2 : Int32)) (fun x4 =>
zbd (A := Int32) (u3 / (2 : Int32)) (fun x5 =>
zjp (T := (Nat → Int32) → Option rt_X1_addPath) (fun (c_this_leaving_125 : (Nat → Int32)) =>
zbd (A := Int32) (i2_10 + 1) (fun x6 =>
k10 u3 x6 c_this_leaving_125)) (fun K125 =>
zjp (T := Option rt_X1_addPath) (
if (x4 : Int32) = x5 then (
K125 c_this_leaving_10) else (
zob (f_X6_read 64 x4 c_this_leaving_10) (fun u7 =>
zob (f_X6_write 64 x4 (u7 &&& ((x4 ^^^ x5) ^^^ ((-1) : Int32))) c_this_leaving_10) (fun u8 =>
K125 u8)))) (fun K92 =>
if (x4 : Int32) = x5 then (
K92) else (
zob (f_X1_entry x4) (fun u9 =>
if (i1_10 : Int32) = u9 then (
zob (f_X6_read 64 x5 c_this_leaving_10) (fun u10 =>
zob (f_X6_write 64 x5 (u10 ||| (x4 ^^^ x5)) c_this_leaving_10) (fun u11 =>
K125 u11))) else (
K92)))))))))))) zfu u1 0 c_this_leaving)
abbrev rt_X1_largest : Type := (Int32 × Int32 × Int32 × Int32 × Int32 × Int64 × (Nat → Int32) × (Nat → Int32) × (Nat → Int32))
def f_X1_largest (a1 : Int32) (a2 : Int32) (a3 : Int32) (a4 : Int64) (v_this_found : Int32) (v_this_source : Int32) (v_this_goal : Int32) (v_this_dimension : Int32) (v_this_alive : Int64) (c_this_leaving : (Nat → Int32)) (c_this_cameFrom : (Nat → Int32)) (c_this_queue : (Nat → Int32)) : Option rt_X1_largest :=
zob (f_J7_fill_53178 64 0 c_this_leaving) (fun u1 =>
zl6 (R := rt_X1_largest) (fun k35 (i6_35 : Int32) (i7_35 : Int32) (v_this_found_35 : Int32) (c_this_leaving_35 : (Nat → Int32)) (c_this_cameFrom_35 : (Nat → Int32)) (c_this_queue_35 : (Nat → Int32)) =>
if (6 : Int32) ≤ i7_35 then (
some (i6_35, v_this_found_35, a1, a2, a3, a4, c_this_leaving_35, c_this_cameFrom_35, c_this_queue_35)) else (
zob (f_X1_findsPath v_this_found_35 a1 a2 a3 a4 c_this_leaving_35 c_this_cameFrom_35 c_this_queue_35) (fun u2 =>
if (u2.1 : Int32) = 0 then (
some (i6_35, u2.2.1, a1, a2, a3, a4, c_this_leaving_35, u2.2.2.1, u2.2.2.2)) else (
zob (f_X1_addPath a1 a2 c_this_leaving_35 u2.2.2.1) (fun u3 =>
zbd (A := Int32) (i6_35 + 1) (fun x4 =>
zbd (A := Int32) (i7_35 + 1) (fun x5 =>
k35 x4 x5 u2.2.1 u3 u2.2.2.1 u2.2.2.2))))))) zfu 0 0 v_this_found u1 c_this_cameFrom c_this_queue)
abbrev rt_X2_startLevels : Type := ((Nat → Int32))
def f_X2_startLevels (a1 : Int64) (v_this_dimension : Int32) (c_this_levels : (Nat → Int32)) : Option rt_X2_startLevels :=
zl2 (R := rt_X2_startLevels) (fun k2 (i3_2 : Int32) (c_this_levels_2 : (Nat → Int32)) =>
if (64 : Int32) ≤ i3_2 then (
some c_this_levels_2) else (
zob (f_X6_contains a1 i3_2) (fun u1 =>
zjp (T := Int32 → Int32 → Option rt_X2_startLevels) (fun (s1_29 : Int32) (s2_29 : Int32) =>
zob (f_X6_write 64 s1_29 s2_29 c_this_levels_2) (fun u2 =>
zbd (A := Int32) (i3_2 + 1) (fun x3 =>
k2 x3 u2))) (fun K29 =>
if (u1 : Int32) = 0 then (
K29 i3_2 0) else (
K29 i3_2 v_this_dimension))))) zfu 0 c_this_levels
abbrev rt_J7_fill_d0a16 : Type := ((Nat → Int64))
def f_J7_fill_d0a16 (n_p0 : Nat) (a1 : Int64) (c_p0 : (Nat → Int64)) : Option rt_J7_fill_d0a16 :=
zbd (A := Int32) (Int32.ofNat n_p0) (fun x1 =>
zl2 (R := rt_J7_fill_d0a16) (fun k6 (i3_6 : Int32) (c_p0_6 : (Nat → Int64)) =>
if (x1 : Int32) ≤ i3_6 then (
some c_p0_6) else (
zgd (inb i3_6 n_p0) (
zbd (A := (Nat → Int64)) (vp_updL c_p0_6 (i3_6 : Int32).toNatClampNeg a1) (fun y3 =>
zbd (A := Int32) (i3_6 + 1) (fun x4 =>
k6 x4 y3))))) zfu 0 c_p0)
abbrev rt_X2_withNeighboursAbove : Type := (Int64)
def f_X2_withNeighboursAbove (a1 : Int64) (a3 : Int32) (v_this_dimension : Int32) : Option rt_X2_withNeighboursAbove :=
zl2 (R := rt_X2_withNeighboursAbove) (fun k6 (i4_6 : Int64) (i6_6 : Int32) =>
if (64 : Int32) ≤ i6_6 then (
some i4_6) else (
zl2 (R := rt_X2_withNeighboursAbove) (fun k19 (i7_19 : Int32) (i8_19 : Int32) =>
if (v_this_dimension : Int32) ≤ i8_19 then (
zjp (T := Int64 → Option rt_X2_withNeighboursAbove) (fun (i4_66 : Int64) =>
zbd (A := Int32) (i6_6 + 1) (fun x1 =>
k6 i4_66 x1)) (fun K66 =>
if (i7_19 : Int32) ≤ a3 then (
K66 i4_6) else (
zbd (A := Int64) (i4_6 ||| (j_lshl 1 i6_6)) (fun x2 =>
K66 x2)))) else (
zob (f_X6_neighbour i6_6 i8_19) (fun u3 =>
zob (f_X6_contains a1 u3) (fun u4 =>
zjp (T := Int32 → Option rt_X2_withNeighboursAbove) (fun (i7_45 : Int32) =>
zbd (A := Int32) (i8_19 + 1) (fun x5 =>
k19 i7_45 x5)) (fun K45 =>
if (u4 : Int32) = 0 then (
K45 i7_19) else (
zbd (A := Int32) (i7_19 + 1) (fun x6 =>
K45 x6))))))) zfu 0 0)) zfu 0 0
abbrev rt_X2_findVectors : Type := ((Nat → Int64))
def f_X2_findVectors (a1 : Int64) (v_this_dimension : Int32) (c_this_vectorSets : (Nat → Int64)) : Option rt_X2_findVectors :=
zob (f_J7_fill_d0a16 7 0 c_this_vectorSets) (fun u1 =>
zl3 (R := rt_X2_findVectors) (fun k13 (i3_13 : Int64) (i5_13 : Int32) (c_this_vectorSets_13 : (Nat → Int64)) =>
if (7 : Int32) ≤ i5_13 then (
some c_this_vectorSets_13) else (
if (v_this_dimension : Int32) < i5_13 then (
some c_this_vectorSets_13) else (
zjp (T := Int64 → Option rt_X2_findVectors) (fun (i3_53 : Int64) =>
zgd (inb i5_13 7) (
zbd (A := (Nat → Int64)) (vp_updL c_this_vectorSets_13 (i5_13 : Int32).toNatClampNeg i3_53) (fun y3 =>
zbd (A := Int32) (i5_13 + 1) (fun x4 =>
k13 i3_53 x4 y3)))) (fun K53 =>
if (i5_13 : Int32) ≤ 1 then (
K53 i3_13) else (
zob (f_X2_withNeighboursAbove i3_13 (v_this_dimension - i5_13) v_this_dimension) (fun u5 =>
zbd (A := Int64) (u5 &&& a1) (fun x6 =>
K53 x6))))))) zfu a1 1 u1)
abbrev rt_X2_neighboursBelow : Type := (Int32)
def f_X2_neighboursBelow (a1 : Int32) (a2 : Int32) (v_this_dimension : Int32) (c_this_levelsBefore : (Nat → Int32)) : Option rt_X2_neighboursBelow :=
zl2 (R := rt_X2_neighboursBelow) (fun k5 (i3_5 : Int32) (i4_5 : Int32) =>
if (v_this_dimension : Int32) ≤ i4_5 then (
some i3_5) else (
zob (f_X6_neighbour a1 i4_5) (fun u1 =>
zob (f_X6_read 64 u1 c_this_levelsBefore) (fun u2 =>
zjp (T := Int32 → Option rt_X2_neighboursBelow) (fun (i3_34 : Int32) =>
zbd (A := Int32) (i4_5 + 1) (fun x3 =>
k5 i3_34 x3)) (fun K34 =>
if (a2 : Int32) ≤ u2 then (
K34 i3_5) else (
zbd (A := Int32) (i3_5 + 1) (fun x4 =>
K34 x4))))))) zfu 0 0
abbrev rt_X2_levelAfterRound : Type := (Int32)
def f_X2_levelAfterRound (a1 : Int32) (v_this_dimension : Int32) (c_this_levelsBefore : (Nat → Int32)) : Option rt_X2_levelAfterRound :=
zl1 (R := rt_X2_levelAfterRound) (fun k2 (i2_2 : Int32) =>
if (v_this_dimension : Int32) ≤ i2_2 then (
some v_this_dimension) else (
zob (f_X2_neighboursBelow a1 i2_2 v_this_dimension c_this_levelsBefore) (fun u1 =>
if (u1 : Int32) ≤ i2_2 then (
zbd (A := Int32) (i2_2 + 1) (fun x2 =>
k2 x2)) else (
some i2_2)))) zfu 0
abbrev rt_X2_roundChanges : Type := (Int32 × (Nat → Int32) × (Nat → Int32))
def f_X2_roundChanges (a1 : Int64) (v_this_dimension : Int32) (c_this_levels : (Nat → Int32)) (c_this_levelsBefore : (Nat → Int32)) : Option rt_X2_roundChanges :=
zbd (A := Nat → Int32) (va_cpy c_this_levels c_this_levelsBefore (0 : Int32).toNatClampNeg (0 : Int32).toNatClampNeg (64 : Int32).toNatClampNeg) (fun y1 =>
zl3 (R := rt_X2_roundChanges) (fun k20 (i3_20 : Int32) (i4_20 : Int32) (c_this_levels_20 : (Nat → Int32)) =>
if (64 : Int32) ≤ i4_20 then (
zgd (isb i3_20) (some (i3_20, c_this_levels_20, y1))) else (
zob (f_X6_contains a1 i4_20) (fun u2 =>
zjp (T := Int32 → (Nat → Int32) → Option rt_X2_roundChanges) (fun (i3_71 : Int32) (c_this_levels_71 : (Nat → Int32)) =>
zbd (A := Int32) (i4_20 + 1) (fun x3 =>
k20 i3_71 x3 c_this_levels_71)) (fun K71 =>
if (u2 : Int32) = 0 then (
K71 i3_20 c_this_levels_20) else (
zob (f_X2_levelAfterRound i4_20 v_this_dimension y1) (fun u4 =>
zob (f_X6_read 64 i4_20 y1) (fun u5 =>
zjp (T := Int32 → Option rt_X2_roundChanges) (fun (i3_60 : Int32) =>
zob (f_X6_write 64 i4_20 u4 c_this_levels_20) (fun u6 =>
K71 i3_60 u6)) (fun K60 =>
if (u4 : Int32) = u5 then (
K60 i3_20) else (
K60 1))))))))) zfu 0 0 c_this_levels)
abbrev rt_X2_find : Type := (Int32 × Int32 × (Nat → Int32) × (Nat → Int32) × (Nat → Int64))
def f_X2_find (a1 : Int32) (a2 : Int64) (v_this_dimension : Int32) (v_this_changingRounds : Int32) (c_this_levels : (Nat → Int32)) (c_this_levelsBefore : (Nat → Int32)) (c_this_vectorSets : (Nat → Int64)) : Option rt_X2_find :=
zob (f_X2_startLevels a2 a1 c_this_levels) (fun u1 =>
zl5 (R := rt_X2_find) (fun k21 (i4_21 : Int32) (i5_21 : Int32) (v_this_changingRounds_21 : Int32) (c_this_levels_21 : (Nat → Int32)) (c_this_levelsBefore_21 : (Nat → Int32)) =>
zjp (T := Option rt_X2_find) (
zob (f_X2_findVectors a2 a1 c_this_vectorSets) (fun u2 =>
some (a1, v_this_changingRounds_21, c_this_levels_21, c_this_levelsBefore_21, u2))) (fun K66 =>
if (385 : Int32) ≤ i5_21 then (
K66) else (
if (i4_21 : Int32) = 0 then (
K66) else (
zob (f_X2_roundChanges a2 a1 c_this_levels_21 c_this_levelsBefore_21) (fun u3 =>
zbd (A := Int32) u3.1 (fun x4 =>
zjp (T := Int32 → Int32 → Option rt_X2_find) (fun (s1_56 : Int32) (s2_56 : Int32) =>
zbd (A := Int32) (s1_56 + s2_56) (fun x5 =>
zbd (A := Int32) (i5_21 + 1) (fun x6 =>
k21 x4 x6 x5 u3.2.1 u3.2.2))) (fun K56 =>
if (x4 : Int32) = 0 then (
K56 v_this_changingRounds_21 0) else (
K56 v_this_changingRounds_21 1)))))))) zfu 1 0 0 u1 c_this_levelsBefore)
abbrev rt_X2_bitOf : Type := (Int32)
def f_X2_bitOf (a1 : Int32) (a2 : Int32) (c_this_vectorSets : (Nat → Int64)) : Option rt_X2_bitOf :=
zjp (T := Int32 → Option rt_X2_bitOf) (fun (s0_31 : Int32) =>
if (s0_31 : Int32) = 0 then (
some 0) else (
some 1)) (fun K31 =>
zjp (T := Option rt_X2_bitOf) (
K31 0) (fun K30 =>
if (a2 : Int32) < 0 then (
K30) else (
if (7 : Int32) ≤ a2 then (
K30) else (
zgd (inb a2 7) (
zob (f_X6_contains (c_this_vectorSets (a2 : Int32).toNatClampNeg) a1) (fun u2 =>
if (u2 : Int32) = 0 then (
K30) else (
K31 1)))))))
abbrev rt_X2_bestLevel : Type := (Int32)
def f_X2_bestLevel (a1 : Int32) (a2 : Int32) (v_this_dimension : Int32) (c_this_levels : (Nat → Int32)) : Option rt_X2_bestLevel :=
zob (f_X2_bestDimension a1 a2 v_this_dimension c_this_levels) (fun u1 =>
if (u1 : Int32) = (-1) then (
some (-1)) else (
zob (f_X6_neighbour a1 u1) (fun u2 =>
zob (f_X2_levelOf u2 c_this_levels) (fun u3 =>
some u3))))
abbrev rt_X3_restart : Type := (Int32 × Int64 × Int32 × Int32)
def f_X3_restart (a1 : Int32) (v_this_dimension : Int32) (v_this_alive : Int64) (v_this_steps : Int32) (v_this_messages : Int32) : Option rt_X3_restart :=
zbd (A := Int64) (j_lushr (-1) ((64 : Int32) - ((1 : Int32) <<< (a1 &&& 31)))) (fun x1 =>
some (a1, x1, 0, 0))
abbrev rt_X3_copyFrom : Type := (Int32 × Int64 × Int32 × Int32 × (Nat → Int32) × (Nat → Int32) × (Nat → Int32) × (Nat → Int32) × (Nat → Int32))
def f_X3_copyFrom (v_this_dimension : Int32) (v_this_alive : Int64) (v_this_steps : Int32) (v_this_messages : Int32) (c_this_states : (Nat → Int32)) (c_this_positions : (Nat → Int32)) (c_this_goals : (Nat → Int32)) (c_this_moveCounts : (Nat → Int32)) (c_this_detourCounts : (Nat → Int32)) (v_p1_dimension : Int32) (v_p1_alive : Int64) (v_p1_steps : Int32) (v_p1_messages : Int32) (c_p1_states : (Nat → Int32)) (c_p1_positions : (Nat → Int32)) (c_p1_goals : (Nat → Int32)) (c_p1_moveCounts : (Nat → Int32)) (c_p1_detourCounts : (Nat → Int32)) : Option rt_X3_copyFrom :=
zbd (A := Nat → Int32) (va_cpy c_p1_states c_this_states (0 : Int32).toNatClampNeg (0 : Int32).toNatClampNeg (24 : Int32).toNatClampNeg) (fun y1 =>
zbd (A := Nat → Int32) (va_cpy c_p1_positions c_this_positions (0 : Int32).toNatClampNeg (0 : Int32).toNatClampNeg (24 : Int32).toNatClampNeg) (fun y2 =>
zbd (A := Nat → Int32) (va_cpy c_p1_goals c_this_goals (0 : Int32).toNatClampNeg (0 : Int32).toNatClampNeg (24 : Int32).toNatClampNeg) (fun y3 =>
zbd (A := Nat → Int32) (va_cpy c_p1_moveCounts c_this_moveCounts (0 : Int32).toNatClampNeg (0 : Int32).toNatClampNeg (24 : Int32).toNatClampNeg) (fun y4 =>
zbd (A := Nat → Int32) (va_cpy c_p1_detourCounts c_this_detourCounts (0 : Int32).toNatClampNeg (0 : Int32).toNatClampNeg (24 : Int32).toNatClampNeg) (fun y5 =>
some (v_p1_dimension, v_p1_alive, v_p1_steps, v_p1_messages, y1, y2, y3, y4, y5))))))
abbrev rt_X3_addMessage : Type := (Int32 × Int32 × (Nat → Int32) × (Nat → Int32) × (Nat → Int32) × (Nat → Int32) × (Nat → Int32))
def f_X3_addMessage (a1 : Int32) (a2 : Int32) (v_this_messages : Int32) (c_this_states : (Nat → Int32)) (c_this_positions : (Nat → Int32)) (c_this_goals : (Nat → Int32)) (c_this_moveCounts : (Nat → Int32)) (c_this_detourCounts : (Nat → Int32)) : Option rt_X3_addMessage :=
zjp (T := Int32 → Int32 → Option rt_X3_addMessage) (fun (s1_20 : Int32) (s2_20 : Int32) =>
zob (f_X6_write 24 s1_20 s2_20 c_this_states) (fun u1 =>
zob (f_X6_write 24 v_this_messages a1 c_this_positions) (fun u2 =>
zob (f_X6_write 24 v_this_messages a2 c_this_goals) (fun u3 =>
zob (f_X6_write 24 v_this_messages 0 c_this_moveCounts) (fun u4 =>
zob (f_X6_write 24 v_this_messages 0 c_this_detourCounts) (fun u5 =>
zbd (A := Int32) (v_this_messages + (1 : Int32)) (fun x6 =>
some (v_this_messages, x6, u1, u2, u3, u4, u5)))))))) (fun K20 =>
if (a1 : Int32) = a2 then (
K20 v_this_messages 1) else (
K20 v_this_messages 0))
abbrev rt_X3_letDie : Type := (Int32 × Int64 × (Nat → Int32))
def f_X3_letDie (a1 : Int64) (v_this_alive : Int64) (v_this_messages : Int32) (c_this_states : (Nat → Int32)) (c_this_positions : (Nat → Int32)) (c_this_goals : (Nat → Int32)) : Option rt_X3_letDie :=
zbd (A := Int64) (v_this_alive &&& (a1 ^^^ ((-1) : Int64))) (fun x1 =>
zl3 (R := rt_X3_letDie) (fun k19 (i3_19 : Int32) (i4_19 : Int32) (c_this_states_19 : (Nat → Int32)) =>
if (v_this_messages : Int32) ≤ i4_19 then (
some (i3_19, x1, c_this_states_19)) else (
zob (f_X6_read 24 i4_19 c_this_positions) (fun u2 =>
zob (f_X6_contains a1 u2) (fun u3 =>
zjp (T := Int32 → Option rt_X3_letDie) (fun (s0_65 : Int32) =>
zjp (T := Int32 → (Nat → Int32) → Option rt_X3_letDie) (fun (i3_97 : Int32) (c_this_states_97 : (Nat → Int32)) =>
zbd (A := Int32) (i4_19 + 1) (fun x4 =>
k19 i3_97 x4 c_this_states_97)) (fun K97 =>
if (s0_65 : Int32) = 0 then (
K97 i3_19 c_this_states_19) else (
zob (f_X6_read 24 i4_19 c_this_states_19) (fun u5 =>
if (u5 : Int32) = 0 then (
zob (f_X6_write 24 i4_19 2 c_this_states_19) (fun u6 =>
zbd (A := Int32) (i3_19 + 1) (fun x7 =>
K97 x7 u6))) else (
K97 i3_19 c_this_states_19))))) (fun K65 =>
zjp (T := Option rt_X3_letDie) (
K65 1) (fun K60 =>
if (u3 : Int32) = 0 then (
zob (f_X6_read 24 i4_19 c_this_goals) (fun u8 =>
zob (f_X6_contains a1 u8) (fun u9 =>
if (u9 : Int32) = 0 then (
K65 0) else (
K60)))) else (
K60))))))) zfu 0 0 c_this_states)
abbrev rt_X4_move : Type := ((Nat → Int32) × (Nat → Int32) × (Nat → Int32) × (Nat → Int32))
def f_X4_move (a1 : Int32) (a2 : Int32) (a3 : Int32) (c_p4_states : (Nat → Int32)) (c_p4_positions : (Nat → Int32)) (c_p4_goals : (Nat → Int32)) (c_p4_moveCounts : (Nat → Int32)) (c_p4_detourCounts : (Nat → Int32)) : Option rt_X4_move :=
zob (f_X6_write 24 a1 a2 c_p4_positions) (fun u1 =>
zob (f_X6_read 24 a1 c_p4_moveCounts) (fun u2 =>
zob (f_X6_write 24 a1 (u2 + (1 : Int32)) c_p4_moveCounts) (fun u3 =>
zjp (T := (Nat → Int32) → Option rt_X4_move) (fun (c_p4_detourCounts_54 : (Nat → Int32)) =>
zob (f_X6_read 24 a1 c_p4_goals) (fun u4 =>
if (a2 : Int32) = u4 then (
zob (f_X6_write 24 a1 1 c_p4_states) (fun u5 =>
some (u5, u1, u3, c_p4_detourCounts_54))) else (
some (c_p4_states, u1, u3, c_p4_detourCounts_54)))) (fun K54 =>
if (a3 : Int32) = 0 then (
K54 c_p4_detourCounts) else (
zob (f_X6_read 24 a1 c_p4_detourCounts) (fun u6 =>
zob (f_X6_write 24 a1 (u6 + (1 : Int32)) c_p4_detourCounts) (fun u7 =>
K54 u7)))))))
abbrev rt_X4_moved : Type := (Int32 × (Nat → Int32) × (Nat → Int32) × (Nat → Int32) × (Nat → Int32) × (Nat → Int32))
def f_X4_moved (a1 : Int32) (c_this_usedWays : (Nat → Int32)) (c_p2_states : (Nat → Int32)) (c_p2_positions : (Nat → Int32)) (c_p2_goals : (Nat → Int32)) (c_p2_moveCounts : (Nat → Int32)) (c_p2_detourCounts : (Nat → Int32)) (v_p3_dimension : Int32) (c_p3_levels : (Nat → Int32)) : Option rt_X4_moved :=
zob (f_X6_read 24 a1 c_p2_positions) (fun u1 =>
zob (f_X6_read 24 a1 c_p2_goals) (fun u2 =>
zbd (A := Int32) (u1 ^^^ u2) (fun x3 =>
zob (f_X2_bestLevel u1 x3 v_p3_dimension c_p3_levels) (fun u4 =>
zjp (T := Int32 → Option rt_X4_moved) (fun (s0_40 : Int32) =>
zjp (T := Int32 → Option rt_X4_moved) (fun (s0_58 : Int32) =>
zjp (T := Option rt_X4_moved) (
zob (f_X2_bestLevel u1 s0_58 v_p3_dimension c_p3_levels) (fun u5 =>
if (1 : Int32) ≤ u5 then (
zob (f_X2_bestDimension u1 s0_58 v_p3_dimension c_p3_levels) (fun u6 =>
zob (f_X6_read 64 u1 c_this_usedWays) (fun u7 =>
zob (f_X6_hasBit u7 u6) (fun u8 =>
if (u8 : Int32) = 0 then (
zob (f_X6_read 64 u1 c_this_usedWays) (fun u9 =>
zob (f_X6_write 64 u1 (u9 ||| ((1 : Int32) <<< (u6 &&& 31))) c_this_usedWays) (fun u10 =>
zob (f_X6_neighbour u1 u6) (fun u11 =>
zob (f_X4_move a1 u11 s0_40 c_p2_states c_p2_positions c_p2_goals c_p2_moveCounts c_p2_detourCounts) (fun u12 =>
some (1, u10, u12.1, u12.2.1, u12.2.2.1, u12.2.2.2)))))) else (
some (0, c_this_usedWays, c_p2_states, c_p2_positions, c_p2_moveCounts, c_p2_detourCounts)))))) else (
some (0, c_this_usedWays, c_p2_states, c_p2_positions, c_p2_moveCounts, c_p2_detourCounts)))) (fun K77 =>
if (s0_40 : Int32) = 0 then (
K77) else (
zob (f_X6_read 24 a1 c_p2_detourCounts) (fun u13 =>
if (2 : Int32) ≤ u13 then (
some (0, c_this_usedWays, c_p2_states, c_p2_positions, c_p2_moveCounts, c_p2_detourCounts)) else (
K77))))) (fun K58 =>
if (s0_40 : Int32) = 0 then (
K58 x3) else (
zob (f_X2_spareOf x3 v_p3_dimension) (fun u14 =>
K58 u14)))) (fun K40 =>
if (1 : Int32) ≤ u4 then (
K40 0) else (
K40 1))))))
abbrev rt_X4_oneStep : Type := (Int32 × (Nat → Int32) × Int32 × (Nat → Int32) × (Nat → Int32) × (Nat → Int32) × (Nat → Int32))
def f_X4_oneStep (c_this_usedWays : (Nat → Int32)) (v_p1_steps : Int32) (v_p1_messages : Int32) (c_p1_states : (Nat → Int32)) (c_p1_positions : (Nat → Int32)) (c_p1_goals : (Nat → Int32)) (c_p1_moveCounts : (Nat → Int32)) (c_p1_detourCounts : (Nat → Int32)) (v_p2_dimension : Int32) (c_p2_levels : (Nat → Int32)) : Option rt_X4_oneStep :=
zob (f_J7_fill_53178 64 0 c_this_usedWays) (fun u1 =>
zl7 (R := rt_X4_oneStep) (fun k13 (i3_13 : Int32) (i4_13 : Int32) (c_this_usedWays_13 : (Nat → Int32)) (c_p1_states_13 : (Nat → Int32)) (c_p1_positions_13 : (Nat → Int32)) (c_p1_moveCounts_13 : (Nat → Int32)) (c_p1_detourCounts_13 : (Nat → Int32)) =>
if (v_p1_messages : Int32) ≤ i4_13 then (
zbd (A := Int32) (v_p1_steps + (1 : Int32)) (fun x2 =>
some (i3_13, c_this_usedWays_13, x2, c_p1_states_13, c_p1_positions_13, c_p1_moveCounts_13, c_p1_detourCounts_13))) else (
zob (f_X6_read 24 i4_13 c_p1_states_13) (fun u3 =>
zjp (T := Int32 → (Nat → Int32) → (Nat → Int32) → (Nat → Int32) → (Nat → Int32) → (Nat → Int32) → Option rt_X4_oneStep) (fun (i3_48 : Int32) (c_this_usedWays_48 : (Nat → Int32)) (c_p1_states_48 : (Nat → Int32)) (c_p1_positions_48 : (Nat → Int32)) (c_p1_moveCounts_48 : (Nat → Int32)) (c_p1_detourCounts_48 : (Nat → Int32)) =>
zbd (A := Int32) (i4_13 + 1) (fun x4 =>
k13 i3_48 x4 c_this_usedWays_48 c_p1_states_48 c_p1_positions_48 c_p1_moveCounts_48 c_p1_detourCounts_48)) (fun K48 =>
if (u3 : Int32) = 0 then (
zob (f_X4_moved i4_13 c_this_usedWays_13 c_p1_states_13 c_p1_positions_13 c_p1_goals c_p1_moveCounts_13 c_p1_detourCounts_13 v_p2_dimension c_p2_levels) (fun u5 =>
if (u5.1 : Int32) = 0 then (
K48 i3_13 u5.2.1 u5.2.2.1 u5.2.2.2.1 u5.2.2.2.2.1 u5.2.2.2.2.2) else (
zbd (A := Int32) (i3_13 + 1) (fun x6 =>
K48 x6 u5.2.1 u5.2.2.1 u5.2.2.2.1 u5.2.2.2.2.1 u5.2.2.2.2.2)))) else (
K48 i3_13 c_this_usedWays_13 c_p1_states_13 c_p1_positions_13 c_p1_moveCounts_13 c_p1_detourCounts_13))))) zfu 0 0 u1 c_p1_states c_p1_positions c_p1_moveCounts c_p1_detourCounts)
abbrev rt_X5_slotAt : Type := (Int32)
def f_X5_slotAt (a1 : Int32) : Option rt_X5_slotAt :=
zjp (T := Option rt_X5_slotAt) (
some (-1)) (fun K22 =>
if (a1 : Int32) < 0 then (
K22) else (
if (4 : Int32) ≤ a1 then (
K22) else (
zgd (inb a1 4) (
some a1))))
abbrev rt_X5_save : Type := (Int32 × Int32 × Int32 × Int64 × Int32 × Int32 × (Nat → Int32) × (Nat → Int32) × (Nat → Int32) × (Nat → Int32) × (Nat → Int32) × Int32 × Int64 × Int32 × Int32 × (Nat → Int32) × (Nat → Int32) × (Nat → Int32) × (Nat → Int32) × (Nat → Int32) × Int32 × Int64 × Int32 × Int32 × (Nat → Int32) × (Nat → Int32) × (Nat → Int32) × (Nat → Int32) × (Nat → Int32) × Int32 × Int64 × Int32 × Int32 × (Nat → Int32) × (Nat → Int32) × (Nat → Int32) × (Nat → Int32) × (Nat → Int32))
def f_X5_save (v_this_next : Int32) (v_this_size : Int32) (v_this_ring_0_dimension : Int32) (v_this_ring_0_alive : Int64) (v_this_ring_0_steps : Int32) (v_this_ring_0_messages : Int32) (c_this_ring_0_states : (Nat → Int32)) (c_this_ring_0_positions : (Nat → Int32)) (c_this_ring_0_goals : (Nat → Int32)) (c_this_ring_0_moveCounts : (Nat → Int32)) (c_this_ring_0_detourCounts : (Nat → Int32)) (v_this_ring_1_dimension : Int32) (v_this_ring_1_alive : Int64) (v_this_ring_1_steps : Int32) (v_this_ring_1_messages : Int32) (c_this_ring_1_states : (Nat → Int32)) (c_this_ring_1_positions : (Nat → Int32)) (c_this_ring_1_goals : (Nat → Int32)) (c_this_ring_1_moveCounts : (Nat → Int32)) (c_this_ring_1_detourCounts : (Nat → Int32)) (v_this_ring_2_dimension : Int32) (v_this_ring_2_alive : Int64) (v_this_ring_2_steps : Int32) (v_this_ring_2_messages : Int32) (c_this_ring_2_states : (Nat → Int32)) (c_this_ring_2_positions : (Nat → Int32)) (c_this_ring_2_goals : (Nat → Int32)) (c_this_ring_2_moveCounts : (Nat → Int32)) (c_this_ring_2_detourCounts : (Nat → Int32)) (v_this_ring_3_dimension : Int32) (v_this_ring_3_alive : Int64) (v_this_ring_3_steps : Int32) (v_this_ring_3_messages : Int32) (c_this_ring_3_states : (Nat → Int32)) (c_this_ring_3_positions : (Nat → Int32)) (c_this_ring_3_goals : (Nat → Int32)) (c_this_ring_3_moveCounts : (Nat → Int32)) (c_this_ring_3_detourCounts : (Nat → Int32)) (v_p1_dimension : Int32) (v_p1_alive : Int64) (v_p1_steps : Int32) (v_p1_messages : Int32) (c_p1_states : (Nat → Int32)) (c_p1_positions : (Nat → Int32)) (c_p1_goals : (Nat → Int32)) (c_p1_moveCounts : (Nat → Int32)) (c_p1_detourCounts : (Nat → Int32)) : Option rt_X5_save :=
zob (f_X5_slotAt v_this_next) (fun u1 =>
if (u1 : Int32) = 0 then (
zob (f_X3_copyFrom v_this_ring_0_dimension v_this_ring_0_alive v_this_ring_0_steps v_this_ring_0_messages c_this_ring_0_states c_this_ring_0_positions c_this_ring_0_goals c_this_ring_0_moveCounts c_this_ring_0_detourCounts v_p1_dimension v_p1_alive v_p1_steps v_p1_messages c_p1_states c_p1_positions c_p1_goals c_p1_moveCounts c_p1_detourCounts) (fun u2 =>
zbd (A := Int32) ((v_this_next + (1 : Int32)) - (v_this_next + (1 : Int32)) / (4 : Int32) * (4 : Int32)) (fun x3 =>
zbd (A := Int32) (if (4 : Int32) < (v_this_size + (1 : Int32)) then 4 else (v_this_size + (1 : Int32))) (fun x4 =>
some (x3, x4, u2.1, u2.2.1, u2.2.2.1, u2.2.2.2.1, u2.2.2.2.2.1, u2.2.2.2.2.2.1, u2.2.2.2.2.2.2.1, u2.2.2.2.2.2.2.2.1, u2.2.2.2.2.2.2.2.2, v_this_ring_1_dimension, v_this_ring_1_alive, v_this_ring_1_steps, v_this_ring_1_messages, c_this_ring_1_states, c_this_ring_1_positions, c_this_ring_1_goals, c_this_ring_1_moveCounts, c_this_ring_1_detourCounts, v_this_ring_2_dimension, v_this_ring_2_alive, v_this_ring_2_steps, v_this_ring_2_messages, c_this_ring_2_states, c_this_ring_2_positions, c_this_ring_2_goals, c_this_ring_2_moveCounts, c_this_ring_2_detourCounts, v_this_ring_3_dimension, v_this_ring_3_alive, v_this_ring_3_steps, v_this_ring_3_messages, c_this_ring_3_states, c_this_ring_3_positions, c_this_ring_3_goals, c_this_ring_3_moveCounts, c_this_ring_3_detourCounts))))) else (
if (u1 : Int32) = 1 then (
zob (f_X3_copyFrom v_this_ring_1_dimension v_this_ring_1_alive v_this_ring_1_steps v_this_ring_1_messages c_this_ring_1_states c_this_ring_1_positions c_this_ring_1_goals c_this_ring_1_moveCounts c_this_ring_1_detourCounts v_p1_dimension v_p1_alive v_p1_steps v_p1_messages c_p1_states c_p1_positions c_p1_goals c_p1_moveCounts c_p1_detourCounts) (fun u5 =>
zbd (A := Int32) ((v_this_next + (1 : Int32)) - (v_this_next + (1 : Int32)) / (4 : Int32) * (4 : Int32)) (fun x6 =>
zbd (A := Int32) (if (4 : Int32) < (v_this_size + (1 : Int32)) then 4 else (v_this_size + (1 : Int32))) (fun x7 =>
some (x6, x7, v_this_ring_0_dimension, v_this_ring_0_alive, v_this_ring_0_steps, v_this_ring_0_messages, c_this_ring_0_states, c_this_ring_0_positions, c_this_ring_0_goals, c_this_ring_0_moveCounts, c_this_ring_0_detourCounts, u5.1, u5.2.1, u5.2.2.1, u5.2.2.2.1, u5.2.2.2.2.1, u5.2.2.2.2.2.1, u5.2.2.2.2.2.2.1, u5.2.2.2.2.2.2.2.1, u5.2.2.2.2.2.2.2.2, v_this_ring_2_dimension, v_this_ring_2_alive, v_this_ring_2_steps, v_this_ring_2_messages, c_this_ring_2_states, c_this_ring_2_positions, c_this_ring_2_goals, c_this_ring_2_moveCounts, c_this_ring_2_detourCounts, v_this_ring_3_dimension, v_this_ring_3_alive, v_this_ring_3_steps, v_this_ring_3_messages, c_this_ring_3_states, c_this_ring_3_positions, c_this_ring_3_goals, c_this_ring_3_moveCounts, c_this_ring_3_detourCounts))))) else (
if (u1 : Int32) = 2 then (
zob (f_X3_copyFrom v_this_ring_2_dimension v_this_ring_2_alive v_this_ring_2_steps v_this_ring_2_messages c_this_ring_2_states c_this_ring_2_positions c_this_ring_2_goals c_this_ring_2_moveCounts c_this_ring_2_detourCounts v_p1_dimension v_p1_alive v_p1_steps v_p1_messages c_p1_states c_p1_positions c_p1_goals c_p1_moveCounts c_p1_detourCounts) (fun u8 =>
zbd (A := Int32) ((v_this_next + (1 : Int32)) - (v_this_next + (1 : Int32)) / (4 : Int32) * (4 : Int32)) (fun x9 =>
zbd (A := Int32) (if (4 : Int32) < (v_this_size + (1 : Int32)) then 4 else (v_this_size + (1 : Int32))) (fun x10 =>
some (x9, x10, v_this_ring_0_dimension, v_this_ring_0_alive, v_this_ring_0_steps, v_this_ring_0_messages, c_this_ring_0_states, c_this_ring_0_positions, c_this_ring_0_goals, c_this_ring_0_moveCounts, c_this_ring_0_detourCounts, v_this_ring_1_dimension, v_this_ring_1_alive, v_this_ring_1_steps, v_this_ring_1_messages, c_this_ring_1_states, c_this_ring_1_positions, c_this_ring_1_goals, c_this_ring_1_moveCounts, c_this_ring_1_detourCounts, u8.1, u8.2.1, u8.2.2.1, u8.2.2.2.1, u8.2.2.2.2.1, u8.2.2.2.2.2.1, u8.2.2.2.2.2.2.1, u8.2.2.2.2.2.2.2.1, u8.2.2.2.2.2.2.2.2, v_this_ring_3_dimension, v_this_ring_3_alive, v_this_ring_3_steps, v_this_ring_3_messages, c_this_ring_3_states, c_this_ring_3_positions, c_this_ring_3_goals, c_this_ring_3_moveCounts, c_this_ring_3_detourCounts))))) else (
if (u1 : Int32) = 3 then (
zob (f_X3_copyFrom v_this_ring_3_dimension v_this_ring_3_alive v_this_ring_3_steps v_this_ring_3_messages c_this_ring_3_states c_this_ring_3_positions c_this_ring_3_goals c_this_ring_3_moveCounts c_this_ring_3_detourCounts v_p1_dimension v_p1_alive v_p1_steps v_p1_messages c_p1_states c_p1_positions c_p1_goals c_p1_moveCounts c_p1_detourCounts) (fun u11 =>
zbd (A := Int32) ((v_this_next + (1 : Int32)) - (v_this_next + (1 : Int32)) / (4 : Int32) * (4 : Int32)) (fun x12 =>
zbd (A := Int32) (if (4 : Int32) < (v_this_size + (1 : Int32)) then 4 else (v_this_size + (1 : Int32))) (fun x13 =>
some (x12, x13, v_this_ring_0_dimension, v_this_ring_0_alive, v_this_ring_0_steps, v_this_ring_0_messages, c_this_ring_0_states, c_this_ring_0_positions, c_this_ring_0_goals, c_this_ring_0_moveCounts, c_this_ring_0_detourCounts, v_this_ring_1_dimension, v_this_ring_1_alive, v_this_ring_1_steps, v_this_ring_1_messages, c_this_ring_1_states, c_this_ring_1_positions, c_this_ring_1_goals, c_this_ring_1_moveCounts, c_this_ring_1_detourCounts, v_this_ring_2_dimension, v_this_ring_2_alive, v_this_ring_2_steps, v_this_ring_2_messages, c_this_ring_2_states, c_this_ring_2_positions, c_this_ring_2_goals, c_this_ring_2_moveCounts, c_this_ring_2_detourCounts, u11.1, u11.2.1, u11.2.2.1, u11.2.2.2.1, u11.2.2.2.2.1, u11.2.2.2.2.2.1, u11.2.2.2.2.2.2.1, u11.2.2.2.2.2.2.2.1, u11.2.2.2.2.2.2.2.2))))) else (
some (v_this_next, v_this_size, v_this_ring_0_dimension, v_this_ring_0_alive, v_this_ring_0_steps, v_this_ring_0_messages, c_this_ring_0_states, c_this_ring_0_positions, c_this_ring_0_goals, c_this_ring_0_moveCounts, c_this_ring_0_detourCounts, v_this_ring_1_dimension, v_this_ring_1_alive, v_this_ring_1_steps, v_this_ring_1_messages, c_this_ring_1_states, c_this_ring_1_positions, c_this_ring_1_goals, c_this_ring_1_moveCounts, c_this_ring_1_detourCounts, v_this_ring_2_dimension, v_this_ring_2_alive, v_this_ring_2_steps, v_this_ring_2_messages, c_this_ring_2_states, c_this_ring_2_positions, c_this_ring_2_goals, c_this_ring_2_moveCounts, c_this_ring_2_detourCounts, v_this_ring_3_dimension, v_this_ring_3_alive, v_this_ring_3_steps, v_this_ring_3_messages, c_this_ring_3_states, c_this_ring_3_positions, c_this_ring_3_goals, c_this_ring_3_moveCounts, c_this_ring_3_detourCounts))))))
abbrev rt_X5_restoreInto : Type := (Int32 × Int32 × Int32 × Int64 × Int32 × Int32 × (Nat → Int32) × (Nat → Int32) × (Nat → Int32) × (Nat → Int32) × (Nat → Int32))
def f_X5_restoreInto (v_this_next : Int32) (v_this_size : Int32) (v_this_ring_0_dimension : Int32) (v_this_ring_0_alive : Int64) (v_this_ring_0_steps : Int32) (v_this_ring_0_messages : Int32) (c_this_ring_0_states : (Nat → Int32)) (c_this_ring_0_positions : (Nat → Int32)) (c_this_ring_0_goals : (Nat → Int32)) (c_this_ring_0_moveCounts : (Nat → Int32)) (c_this_ring_0_detourCounts : (Nat → Int32)) (v_this_ring_1_dimension : Int32) (v_this_ring_1_alive : Int64) (v_this_ring_1_steps : Int32) (v_this_ring_1_messages : Int32) (c_this_ring_1_states : (Nat → Int32)) (c_this_ring_1_positions : (Nat → Int32)) (c_this_ring_1_goals : (Nat → Int32)) (c_this_ring_1_moveCounts : (Nat → Int32)) (c_this_ring_1_detourCounts : (Nat → Int32)) (v_this_ring_2_dimension : Int32) (v_this_ring_2_alive : Int64) (v_this_ring_2_steps : Int32) (v_this_ring_2_messages : Int32) (c_this_ring_2_states : (Nat → Int32)) (c_this_ring_2_positions : (Nat → Int32)) (c_this_ring_2_goals : (Nat → Int32)) (c_this_ring_2_moveCounts : (Nat → Int32)) (c_this_ring_2_detourCounts : (Nat → Int32)) (v_this_ring_3_dimension : Int32) (v_this_ring_3_alive : Int64) (v_this_ring_3_steps : Int32) (v_this_ring_3_messages : Int32) (c_this_ring_3_states : (Nat → Int32)) (c_this_ring_3_positions : (Nat → Int32)) (c_this_ring_3_goals : (Nat → Int32)) (c_this_ring_3_moveCounts : (Nat → Int32)) (c_this_ring_3_detourCounts : (Nat → Int32)) (v_p1_dimension : Int32) (v_p1_alive : Int64) (v_p1_steps : Int32) (v_p1_messages : Int32) (c_p1_states : (Nat → Int32)) (c_p1_positions : (Nat → Int32)) (c_p1_goals : (Nat → Int32)) (c_p1_moveCounts : (Nat → Int32)) (c_p1_detourCounts : (Nat → Int32)) : Option rt_X5_restoreInto :=
zbd (A := Int32) (((v_this_next + (4 : Int32)) - (1 : Int32)) - ((v_this_next + (4 : Int32)) - (1 : Int32)) / (4 : Int32) * (4 : Int32)) (fun x1 =>
zob (f_X5_slotAt x1) (fun u2 =>
if (u2 : Int32) = 0 then (
if (v_this_size : Int32) ≤ 0 then (
some (v_this_next, v_this_size, v_p1_dimension, v_p1_alive, v_p1_steps, v_p1_messages, c_p1_states, c_p1_positions, c_p1_goals, c_p1_moveCounts, c_p1_detourCounts)) else (
zob (f_X3_copyFrom v_p1_dimension v_p1_alive v_p1_steps v_p1_messages c_p1_states c_p1_positions c_p1_goals c_p1_moveCounts c_p1_detourCounts v_this_ring_0_dimension v_this_ring_0_alive v_this_ring_0_steps v_this_ring_0_messages c_this_ring_0_states c_this_ring_0_positions c_this_ring_0_goals c_this_ring_0_moveCounts c_this_ring_0_detourCounts) (fun u3 =>
zbd (A := Int32) (v_this_size - (1 : Int32)) (fun x4 =>
some (x1, x4, u3.1, u3.2.1, u3.2.2.1, u3.2.2.2.1, u3.2.2.2.2.1, u3.2.2.2.2.2.1, u3.2.2.2.2.2.2.1, u3.2.2.2.2.2.2.2.1, u3.2.2.2.2.2.2.2.2))))) else (
if (u2 : Int32) = 1 then (
if (v_this_size : Int32) ≤ 0 then (
some (v_this_next, v_this_size, v_p1_dimension, v_p1_alive, v_p1_steps, v_p1_messages, c_p1_states, c_p1_positions, c_p1_goals, c_p1_moveCounts, c_p1_detourCounts)) else (
zob (f_X3_copyFrom v_p1_dimension v_p1_alive v_p1_steps v_p1_messages c_p1_states c_p1_positions c_p1_goals c_p1_moveCounts c_p1_detourCounts v_this_ring_1_dimension v_this_ring_1_alive v_this_ring_1_steps v_this_ring_1_messages c_this_ring_1_states c_this_ring_1_positions c_this_ring_1_goals c_this_ring_1_moveCounts c_this_ring_1_detourCounts) (fun u5 =>
zbd (A := Int32) (v_this_size - (1 : Int32)) (fun x6 =>
some (x1, x6, u5.1, u5.2.1, u5.2.2.1, u5.2.2.2.1, u5.2.2.2.2.1, u5.2.2.2.2.2.1, u5.2.2.2.2.2.2.1, u5.2.2.2.2.2.2.2.1, u5.2.2.2.2.2.2.2.2))))) else (
if (u2 : Int32) = 2 then (
if (v_this_size : Int32) ≤ 0 then (
some (v_this_next, v_this_size, v_p1_dimension, v_p1_alive, v_p1_steps, v_p1_messages, c_p1_states, c_p1_positions, c_p1_goals, c_p1_moveCounts, c_p1_detourCounts)) else (
zob (f_X3_copyFrom v_p1_dimension v_p1_alive v_p1_steps v_p1_messages c_p1_states c_p1_positions c_p1_goals c_p1_moveCounts c_p1_detourCounts v_this_ring_2_dimension v_this_ring_2_alive v_this_ring_2_steps v_this_ring_2_messages c_this_ring_2_states c_this_ring_2_positions c_this_ring_2_goals c_this_ring_2_moveCounts c_this_ring_2_detourCounts) (fun u7 =>
zbd (A := Int32) (v_this_size - (1 : Int32)) (fun x8 =>
some (x1, x8, u7.1, u7.2.1, u7.2.2.1, u7.2.2.2.1, u7.2.2.2.2.1, u7.2.2.2.2.2.1, u7.2.2.2.2.2.2.1, u7.2.2.2.2.2.2.2.1, u7.2.2.2.2.2.2.2.2))))) else (
if (u2 : Int32) = 3 then (
if (v_this_size : Int32) ≤ 0 then (
some (v_this_next, v_this_size, v_p1_dimension, v_p1_alive, v_p1_steps, v_p1_messages, c_p1_states, c_p1_positions, c_p1_goals, c_p1_moveCounts, c_p1_detourCounts)) else (
zob (f_X3_copyFrom v_p1_dimension v_p1_alive v_p1_steps v_p1_messages c_p1_states c_p1_positions c_p1_goals c_p1_moveCounts c_p1_detourCounts v_this_ring_3_dimension v_this_ring_3_alive v_this_ring_3_steps v_this_ring_3_messages c_this_ring_3_states c_this_ring_3_positions c_this_ring_3_goals c_this_ring_3_moveCounts c_this_ring_3_detourCounts) (fun u9 =>
zbd (A := Int32) (v_this_size - (1 : Int32)) (fun x10 =>
some (x1, x10, u9.1, u9.2.1, u9.2.2.1, u9.2.2.2.1, u9.2.2.2.2.1, u9.2.2.2.2.2.1, u9.2.2.2.2.2.2.1, u9.2.2.2.2.2.2.2.1, u9.2.2.2.2.2.2.2.2))))) else (
some (v_this_next, v_this_size, v_p1_dimension, v_p1_alive, v_p1_steps, v_p1_messages, c_p1_states, c_p1_positions, c_p1_goals, c_p1_moveCounts, c_p1_detourCounts)))))))
abbrev rt_X6_refreshSafety : Type := (Int32 × Int32 × (Nat → Int32) × (Nat → Int32) × (Nat → Int64))
def f_X6_refreshSafety (v_this_now_dimension : Int32) (v_this_now_alive : Int64) (v_this_safety_dimension : Int32) (v_this_safety_changingRounds : Int32) (c_this_safety_levels : (Nat → Int32)) (c_this_safety_levelsBefore : (Nat → Int32)) (c_this_safety_vectorSets : (Nat → Int64)) : Option rt_X6_refreshSafety :=
zob (f_X2_find v_this_now_dimension v_this_now_alive v_this_safety_dimension v_this_safety_changingRounds c_this_safety_levels c_this_safety_levelsBefore c_this_safety_vectorSets) (fun u1 =>
some (u1.1, u1.2.1, u1.2.2.1, u1.2.2.2.1, u1.2.2.2.2))
abbrev rt0_X6_setDimension : Type := (Int32 × Int32 × Int64 × Int32 × Int32 × Int32 × Int32 × Int32 × Int64 × Int32 × Int32 × (Nat → Int32) × (Nat → Int32) × (Nat → Int32) × (Nat → Int32) × (Nat → Int32) × Int32 × Int64 × Int32 × Int32 × (Nat → Int32) × (Nat → Int32) × (Nat → Int32) × (Nat → Int32) × (Nat → Int32) × Int32 × Int64 × Int32 × Int32 × (Nat → Int32) × (Nat → Int32) × (Nat → Int32) × (Nat → Int32) × (Nat → Int32) × Int32 × Int64 × Int32 × Int32 × (Nat → Int32) × (Nat → Int32) × (Nat → Int32) × (Nat → Int32) × (Nat → Int32) × Int32 × Int32 × (Nat → Int32) × (Nat → Int32) × (Nat → Int64))
abbrev rt_X6_setDimension : Type := (String ⊕ rt0_X6_setDimension)
def f_X6_setDimension (a1 : Int32) (v_this_now_dimension : Int32) (v_this_now_alive : Int64) (v_this_now_steps : Int32) (v_this_now_messages : Int32) (c_this_now_states : (Nat → Int32)) (c_this_now_positions : (Nat → Int32)) (c_this_now_goals : (Nat → Int32)) (c_this_now_moveCounts : (Nat → Int32)) (c_this_now_detourCounts : (Nat → Int32)) (v_this_past_next : Int32) (v_this_past_size : Int32) (v_this_past_ring_0_dimension : Int32) (v_this_past_ring_0_alive : Int64) (v_this_past_ring_0_steps : Int32) (v_this_past_ring_0_messages : Int32) (c_this_past_ring_0_states : (Nat → Int32)) (c_this_past_ring_0_positions : (Nat → Int32)) (c_this_past_ring_0_goals : (Nat → Int32)) (c_this_past_ring_0_moveCounts : (Nat → Int32)) (c_this_past_ring_0_detourCounts : (Nat → Int32)) (v_this_past_ring_1_dimension : Int32) (v_this_past_ring_1_alive : Int64) (v_this_past_ring_1_steps : Int32) (v_this_past_ring_1_messages : Int32) (c_this_past_ring_1_states : (Nat → Int32)) (c_this_past_ring_1_positions : (Nat → Int32)) (c_this_past_ring_1_goals : (Nat → Int32)) (c_this_past_ring_1_moveCounts : (Nat → Int32)) (c_this_past_ring_1_detourCounts : (Nat → Int32)) (v_this_past_ring_2_dimension : Int32) (v_this_past_ring_2_alive : Int64) (v_this_past_ring_2_steps : Int32) (v_this_past_ring_2_messages : Int32) (c_this_past_ring_2_states : (Nat → Int32)) (c_this_past_ring_2_positions : (Nat → Int32)) (c_this_past_ring_2_goals : (Nat → Int32)) (c_this_past_ring_2_moveCounts : (Nat → Int32)) (c_this_past_ring_2_detourCounts : (Nat → Int32)) (v_this_past_ring_3_dimension : Int32) (v_this_past_ring_3_alive : Int64) (v_this_past_ring_3_steps : Int32) (v_this_past_ring_3_messages : Int32) (c_this_past_ring_3_states : (Nat → Int32)) (c_this_past_ring_3_positions : (Nat → Int32)) (c_this_past_ring_3_goals : (Nat → Int32)) (c_this_past_ring_3_moveCounts : (Nat → Int32)) (c_this_past_ring_3_detourCounts : (Nat → Int32)) (v_this_safety_dimension : Int32) (v_this_safety_changingRounds : Int32) (c_this_safety_levels : (Nat → Int32)) (c_this_safety_levelsBefore : (Nat → Int32)) (c_this_safety_vectorSets : (Nat → Int64)) : Option rt_X6_setDimension :=
zjp (T := Option rt_X6_setDimension) (
some (.inl "java/lang/IllegalArgumentException")) (fun K11 =>
if (a1 : Int32) < 1 then (
K11) else (
if (a1 : Int32) ≤ 6 then (
zob (f_X5_save v_this_past_next v_this_past_size v_this_past_ring_0_dimension v_this_past_ring_0_alive v_this_past_ring_0_steps v_this_past_ring_0_messages c_this_past_ring_0_states c_this_past_ring_0_positions c_this_past_ring_0_goals c_this_past_ring_0_moveCounts c_this_past_ring_0_detourCounts v_this_past_ring_1_dimension v_this_past_ring_1_alive v_this_past_ring_1_steps v_this_past_ring_1_messages c_this_past_ring_1_states c_this_past_ring_1_positions c_this_past_ring_1_goals c_this_past_ring_1_moveCounts c_this_past_ring_1_detourCounts v_this_past_ring_2_dimension v_this_past_ring_2_alive v_this_past_ring_2_steps v_this_past_ring_2_messages c_this_past_ring_2_states c_this_past_ring_2_positions c_this_past_ring_2_goals c_this_past_ring_2_moveCounts c_this_past_ring_2_detourCounts v_this_past_ring_3_dimension v_this_past_ring_3_alive v_this_past_ring_3_steps v_this_past_ring_3_messages c_this_past_ring_3_states c_this_past_ring_3_positions c_this_past_ring_3_goals c_this_past_ring_3_moveCounts c_this_past_ring_3_detourCounts v_this_now_dimension v_this_now_alive v_this_now_steps v_this_now_messages c_this_now_states c_this_now_positions c_this_now_goals c_this_now_moveCounts c_this_now_detourCounts) (fun u1 =>
zob (f_X3_restart a1 v_this_now_dimension v_this_now_alive v_this_now_steps v_this_now_messages) (fun u2 =>
zob (f_X6_refreshSafety u2.1 u2.2.1 v_this_safety_dimension v_this_safety_changingRounds c_this_safety_levels c_this_safety_levelsBefore c_this_safety_vectorSets) (fun u3 =>
some (.inr (v_this_now_dimension, u2.1, u2.2.1, u2.2.2.1, u2.2.2.2, u1.1, u1.2.1, u1.2.2.1, u1.2.2.2.1, u1.2.2.2.2.1, u1.2.2.2.2.2.1, u1.2.2.2.2.2.2.1, u1.2.2.2.2.2.2.2.1, u1.2.2.2.2.2.2.2.2.1, u1.2.2.2.2.2.2.2.2.2.1, u1.2.2.2.2.2.2.2.2.2.2.1, u1.2.2.2.2.2.2.2.2.2.2.2.1, u1.2.2.2.2.2.2.2.2.2.2.2.2.1, u1.2.2.2.2.2.2.2.2.2.2.2.2.2.1, u1.2.2.2.2.2.2.2.2.2.2.2.2.2.2.1, u1.2.2.2.2.2.2.2.2.2.2.2.2.2.2.2.1, u1.2.2.2.2.2.2.2.2.2.2.2.2.2.2.2.2.1, u1.2.2.2.2.2.2.2.2.2.2.2.2.2.2.2.2.2.1, u1.2.2.2.2.2.2.2.2.2.2.2.2.2.2.2.2.2.2.1, u1.2.2.2.2.2.2.2.2.2.2.2.2.2.2.2.2.2.2.2.1, u1.2.2.2.2.2.2.2.2.2.2.2.2.2.2.2.2.2.2.2.2.1, u1.2.2.2.2.2.2.2.2.2.2.2.2.2.2.2.2.2.2.2.2.2.1, u1.2.2.2.2.2.2.2.2.2.2.2.2.2.2.2.2.2.2.2.2.2.2.1, u1.2.2.2.2.2.2.2.2.2.2.2.2.2.2.2.2.2.2.2.2.2.2.2.1, u1.2.2.2.2.2.2.2.2.2.2.2.2.2.2.2.2.2.2.2.2.2.2.2.2.1, u1.2.2.2.2.2.2.2.2.2.2.2.2.2.2.2.2.2.2.2.2.2.2.2.2.2.1, u1.2.2.2.2.2.2.2.2.2.2.2.2.2.2.2.2.2.2.2.2.2.2.2.2.2.2.1, u1.2.2.2.2.2.2.2.2.2.2.2.2.2.2.2.2.2.2.2.2.2.2.2.2.2.2.2.1, u1.2.2.2.2.2.2.2.2.2.2.2.2.2.2.2.2.2.2.2.2.2.2.2.2.2.2.2.2.1, u1.2.2.2.2.2.2.2.2.2.2.2.2.2.2.2.2.2.2.2.2.2.2.2.2.2.2.2.2.2.1, u1.2.2.2.2.2.2.2.2.2.2.2.2.2.2.2.2.2.2.2.2.2.2.2.2.2.2.2.2.2.2.1, u1.2.2.2.2.2.2.2.2.2.2.2.2.2.2.2.2.2.2.2.2.2.2.2.2.2.2.2.2.2.2.2.1, u1.2.2.2.2.2.2.2.2.2.2.2.2.2.2.2.2.2.2.2.2.2.2.2.2.2.2.2.2.2.2.2.2.1, u1.2.2.2.2.2.2.2.2.2.2.2.2.2.2.2.2.2.2.2.2.2.2.2.2.2.2.2.2.2.2.2.2.2.1, u1.2.2.2.2.2.2.2.2.2.2.2.2.2.2.2.2.2.2.2.2.2.2.2.2.2.2.2.2.2.2.2.2.2.2.1, u1.2.2.2.2.2.2.2.2.2.2.2.2.2.2.2.2.2.2.2.2.2.2.2.2.2.2.2.2.2.2.2.2.2.2.2.1, u1.2.2.2.2.2.2.2.2.2.2.2.2.2.2.2.2.2.2.2.2.2.2.2.2.2.2.2.2.2.2.2.2.2.2.2.2.1, u1.2.2.2.2.2.2.2.2.2.2.2.2.2.2.2.2.2.2.2.2.2.2.2.2.2.2.2.2.2.2.2.2.2.2.2.2.2, u3.1, u3.2.1, u3.2.2.1, u3.2.2.2.1, u3.2.2.2.2)))))) else (
K11)))
abbrev rt_X6_nodeCount : Type := (Int32)
def f_X6_nodeCount (v_this_now_dimension : Int32) : Option rt_X6_nodeCount :=
some ((1 : Int32) <<< (v_this_now_dimension &&& 31))
abbrev rt0_X6_requireNode : Type := (Unit)
abbrev rt_X6_requireNode : Type := (String ⊕ rt0_X6_requireNode)
def f_X6_requireNode (a1 : Int32) (v_this_now_dimension : Int32) : Option rt_X6_requireNode :=
zjp (T := Option rt_X6_requireNode) (
some (.inl "java/lang/IllegalArgumentException")) (fun K12 =>
if (a1 : Int32) < 0 then (
K12) else (
zob (f_X6_nodeCount v_this_now_dimension) (fun u1 =>
if (a1 : Int32) < u1 then (
some (.inr ())) else (
K12))))
abbrev rt0_X6_requireAlive : Type := (Unit)
abbrev rt_X6_requireAlive : Type := (String ⊕ rt0_X6_requireAlive)
def f_X6_requireAlive (a1 : Int32) (v_this_now_alive : Int64) : Option rt_X6_requireAlive :=
zob (f_X6_contains v_this_now_alive a1) (fun u1 =>
if (u1 : Int32) = 0 then (
some (.inl "java/lang/IllegalStateException")) else (
some (.inr ())))
abbrev rt0_X6_kill : Type := (Int32 × Int64 × (Nat → Int32) × Int32 × Int32 × Int32 × Int64 × Int32 × Int32 × (Nat → Int32) × (Nat → Int32) × (Nat → Int32) × (Nat → Int32) × (Nat → Int32) × Int32 × Int64 × Int32 × Int32 × (Nat → Int32) × (Nat → Int32) × (Nat → Int32) × (Nat → Int32) × (Nat → Int32) × Int32 × Int64 × Int32 × Int32 × (Nat → Int32) × (Nat → Int32) × (Nat → Int32) × (Nat → Int32) × (Nat → Int32) × Int32 × Int64 × Int32 × Int32 × (Nat → Int32) × (Nat → Int32) × (Nat → Int32) × (Nat → Int32) × (Nat → Int32) × Int32 × Int32 × (Nat → Int32) × (Nat → Int32) × (Nat → Int64))
abbrev rt_X6_kill : Type := (String ⊕ rt0_X6_kill)
def f_X6_kill (a1 : Int32) (v_this_now_dimension : Int32) (v_this_now_alive : Int64) (v_this_now_steps : Int32) (v_this_now_messages : Int32) (c_this_now_states : (Nat → Int32)) (c_this_now_positions : (Nat → Int32)) (c_this_now_goals : (Nat → Int32)) (c_this_now_moveCounts : (Nat → Int32)) (c_this_now_detourCounts : (Nat → Int32)) (v_this_past_next : Int32) (v_this_past_size : Int32) (v_this_past_ring_0_dimension : Int32) (v_this_past_ring_0_alive : Int64) (v_this_past_ring_0_steps : Int32) (v_this_past_ring_0_messages : Int32) (c_this_past_ring_0_states : (Nat → Int32)) (c_this_past_ring_0_positions : (Nat → Int32)) (c_this_past_ring_0_goals : (Nat → Int32)) (c_this_past_ring_0_moveCounts : (Nat → Int32)) (c_this_past_ring_0_detourCounts : (Nat → Int32)) (v_this_past_ring_1_dimension : Int32) (v_this_past_ring_1_alive : Int64) (v_this_past_ring_1_steps : Int32) (v_this_past_ring_1_messages : Int32) (c_this_past_ring_1_states : (Nat → Int32)) (c_this_past_ring_1_positions : (Nat → Int32)) (c_this_past_ring_1_goals : (Nat → Int32)) (c_this_past_ring_1_moveCounts : (Nat → Int32)) (c_this_past_ring_1_detourCounts : (Nat → Int32)) (v_this_past_ring_2_dimension : Int32) (v_this_past_ring_2_alive : Int64) (v_this_past_ring_2_steps : Int32) (v_this_past_ring_2_messages : Int32) (c_this_past_ring_2_states : (Nat → Int32)) (c_this_past_ring_2_positions : (Nat → Int32)) (c_this_past_ring_2_goals : (Nat → Int32)) (c_this_past_ring_2_moveCounts : (Nat → Int32)) (c_this_past_ring_2_detourCounts : (Nat → Int32)) (v_this_past_ring_3_dimension : Int32) (v_this_past_ring_3_alive : Int64) (v_this_past_ring_3_steps : Int32) (v_this_past_ring_3_messages : Int32) (c_this_past_ring_3_states : (Nat → Int32)) (c_this_past_ring_3_positions : (Nat → Int32)) (c_this_past_ring_3_goals : (Nat → Int32)) (c_this_past_ring_3_moveCounts : (Nat → Int32)) (c_this_past_ring_3_detourCounts : (Nat → Int32)) (v_this_safety_dimension : Int32) (v_this_safety_changingRounds : Int32) (c_this_safety_levels : (Nat → Int32)) (c_this_safety_levelsBefore : (Nat → Int32)) (c_this_safety_vectorSets : (Nat → Int64)) : Option rt_X6_kill :=
zox (f_X6_requireNode a1 v_this_now_dimension) (fun u1 =>
zox (f_X6_requireAlive a1 v_this_now_alive) (fun u2 =>
zob (f_X5_save v_this_past_next v_this_past_size v_this_past_ring_0_dimension v_this_past_ring_0_alive v_this_past_ring_0_steps v_this_past_ring_0_messages c_this_past_ring_0_states c_this_past_ring_0_positions c_this_past_ring_0_goals c_this_past_ring_0_moveCounts c_this_past_ring_0_detourCounts v_this_past_ring_1_dimension v_this_past_ring_1_alive v_this_past_ring_1_steps v_this_past_ring_1_messages c_this_past_ring_1_states c_this_past_ring_1_positions c_this_past_ring_1_goals c_this_past_ring_1_moveCounts c_this_past_ring_1_detourCounts v_this_past_ring_2_dimension v_this_past_ring_2_alive v_this_past_ring_2_steps v_this_past_ring_2_messages c_this_past_ring_2_states c_this_past_ring_2_positions c_this_past_ring_2_goals c_this_past_ring_2_moveCounts c_this_past_ring_2_detourCounts v_this_past_ring_3_dimension v_this_past_ring_3_alive v_this_past_ring_3_steps v_this_past_ring_3_messages c_this_past_ring_3_states c_this_past_ring_3_positions c_this_past_ring_3_goals c_this_past_ring_3_moveCounts c_this_past_ring_3_detourCounts v_this_now_dimension v_this_now_alive v_this_now_steps v_this_now_messages c_this_now_states c_this_now_positions c_this_now_goals c_this_now_moveCounts c_this_now_detourCounts) (fun u3 =>
zob (f_X3_letDie (j_lshl 1 a1) v_this_now_alive v_this_now_messages c_this_now_states c_this_now_positions c_this_now_goals) (fun u4 =>
zbd (A := Int32) u4.1 (fun x5 =>
zob (f_X6_refreshSafety v_this_now_dimension u4.2.1 v_this_safety_dimension v_this_safety_changingRounds c_this_safety_levels c_this_safety_levelsBefore c_this_safety_vectorSets) (fun u6 =>
some (.inr (x5, u4.2.1, u4.2.2, u3.1, u3.2.1, u3.2.2.1, u3.2.2.2.1, u3.2.2.2.2.1, u3.2.2.2.2.2.1, u3.2.2.2.2.2.2.1, u3.2.2.2.2.2.2.2.1, u3.2.2.2.2.2.2.2.2.1, u3.2.2.2.2.2.2.2.2.2.1, u3.2.2.2.2.2.2.2.2.2.2.1, u3.2.2.2.2.2.2.2.2.2.2.2.1, u3.2.2.2.2.2.2.2.2.2.2.2.2.1, u3.2.2.2.2.2.2.2.2.2.2.2.2.2.1, u3.2.2.2.2.2.2.2.2.2.2.2.2.2.2.1, u3.2.2.2.2.2.2.2.2.2.2.2.2.2.2.2.1, u3.2.2.2.2.2.2.2.2.2.2.2.2.2.2.2.2.1, u3.2.2.2.2.2.2.2.2.2.2.2.2.2.2.2.2.2.1, u3.2.2.2.2.2.2.2.2.2.2.2.2.2.2.2.2.2.2.1, u3.2.2.2.2.2.2.2.2.2.2.2.2.2.2.2.2.2.2.2.1, u3.2.2.2.2.2.2.2.2.2.2.2.2.2.2.2.2.2.2.2.2.1, u3.2.2.2.2.2.2.2.2.2.2.2.2.2.2.2.2.2.2.2.2.2.1, u3.2.2.2.2.2.2.2.2.2.2.2.2.2.2.2.2.2.2.2.2.2.2.1, u3.2.2.2.2.2.2.2.2.2.2.2.2.2.2.2.2.2.2.2.2.2.2.2.1, u3.2.2.2.2.2.2.2.2.2.2.2.2.2.2.2.2.2.2.2.2.2.2.2.2.1, u3.2.2.2.2.2.2.2.2.2.2.2.2.2.2.2.2.2.2.2.2.2.2.2.2.2.1, u3.2.2.2.2.2.2.2.2.2.2.2.2.2.2.2.2.2.2.2.2.2.2.2.2.2.2.1, u3.2.2.2.2.2.2.2.2.2.2.2.2.2.2.2.2.2.2.2.2.2.2.2.2.2.2.2.1, u3.2.2.2.2.2.2.2.2.2.2.2.2.2.2.2.2.2.2.2.2.2.2.2.2.2.2.2.2.1, u3.2.2.2.2.2.2.2.2.2.2.2.2.2.2.2.2.2.2.2.2.2.2.2.2.2.2.2.2.2.1, u3.2.2.2.2.2.2.2.2.2.2.2.2.2.2.2.2.2.2.2.2.2.2.2.2.2.2.2.2.2.2.1, u3.2.2.2.2.2.2.2.2.2.2.2.2.2.2.2.2.2.2.2.2.2.2.2.2.2.2.2.2.2.2.2.1, u3.2.2.2.2.2.2.2.2.2.2.2.2.2.2.2.2.2.2.2.2.2.2.2.2.2.2.2.2.2.2.2.2.1, u3.2.2.2.2.2.2.2.2.2.2.2.2.2.2.2.2.2.2.2.2.2.2.2.2.2.2.2.2.2.2.2.2.2.1, u3.2.2.2.2.2.2.2.2.2.2.2.2.2.2.2.2.2.2.2.2.2.2.2.2.2.2.2.2.2.2.2.2.2.2.1, u3.2.2.2.2.2.2.2.2.2.2.2.2.2.2.2.2.2.2.2.2.2.2.2.2.2.2.2.2.2.2.2.2.2.2.2.1, u3.2.2.2.2.2.2.2.2.2.2.2.2.2.2.2.2.2.2.2.2.2.2.2.2.2.2.2.2.2.2.2.2.2.2.2.2.1, u3.2.2.2.2.2.2.2.2.2.2.2.2.2.2.2.2.2.2.2.2.2.2.2.2.2.2.2.2.2.2.2.2.2.2.2.2.2, u6.1, u6.2.1, u6.2.2.1, u6.2.2.2.1, u6.2.2.2.2))))))))
abbrev rt_J13_bitCount_95d88 : Type := (Int32)
def f_J13_bitCount_95d88 (a0 : Int64) : Option rt_J13_bitCount_95d88 :=
zbd (A := Int64) (a0 - ((j_lushr a0 1) &&& (6148914691236517205 : Int64))) (fun x1 =>
zbd (A := Int64) ((x1 &&& (3689348814741910323 : Int64)) + ((j_lushr x1 2) &&& (3689348814741910323 : Int64))) (fun x2 =>
zbd (A := Int64) ((x2 + (j_lushr x2 4)) &&& (1085102592571150095 : Int64)) (fun x3 =>
zbd (A := Int64) (x3 + (j_lushr x3 8)) (fun x4 =>
zbd (A := Int64) (x4 + (j_lushr x4 16)) (fun x5 =>
zbd (A := Int64) (x5 + (j_lushr x5 32)) (fun x6 =>
some ((x6 : Int64).toInt32 &&& (127 : Int32))))))))
abbrev rt0_X6_revive : Type := (Int32 × Int64 × Int32 × Int32 × Int32 × Int64 × Int32 × Int32 × (Nat → Int32) × (Nat → Int32) × (Nat → Int32) × (Nat → Int32) × (Nat → Int32) × Int32 × Int64 × Int32 × Int32 × (Nat → Int32) × (Nat → Int32) × (Nat → Int32) × (Nat → Int32) × (Nat → Int32) × Int32 × Int64 × Int32 × Int32 × (Nat → Int32) × (Nat → Int32) × (Nat → Int32) × (Nat → Int32) × (Nat → Int32) × Int32 × Int64 × Int32 × Int32 × (Nat → Int32) × (Nat → Int32) × (Nat → Int32) × (Nat → Int32) × (Nat → Int32) × Int32 × Int32 × (Nat → Int32) × (Nat → Int32) × (Nat → Int64))
abbrev rt_X6_revive : Type := (String ⊕ rt0_X6_revive)
def f_X6_revive (a1 : Int32) (v_this_now_dimension : Int32) (v_this_now_alive : Int64) (v_this_now_steps : Int32) (v_this_now_messages : Int32) (c_this_now_states : (Nat → Int32)) (c_this_now_positions : (Nat → Int32)) (c_this_now_goals : (Nat → Int32)) (c_this_now_moveCounts : (Nat → Int32)) (c_this_now_detourCounts : (Nat → Int32)) (v_this_past_next : Int32) (v_this_past_size : Int32) (v_this_past_ring_0_dimension : Int32) (v_this_past_ring_0_alive : Int64) (v_this_past_ring_0_steps : Int32) (v_this_past_ring_0_messages : Int32) (c_this_past_ring_0_states : (Nat → Int32)) (c_this_past_ring_0_positions : (Nat → Int32)) (c_this_past_ring_0_goals : (Nat → Int32)) (c_this_past_ring_0_moveCounts : (Nat → Int32)) (c_this_past_ring_0_detourCounts : (Nat → Int32)) (v_this_past_ring_1_dimension : Int32) (v_this_past_ring_1_alive : Int64) (v_this_past_ring_1_steps : Int32) (v_this_past_ring_1_messages : Int32) (c_this_past_ring_1_states : (Nat → Int32)) (c_this_past_ring_1_positions : (Nat → Int32)) (c_this_past_ring_1_goals : (Nat → Int32)) (c_this_past_ring_1_moveCounts : (Nat → Int32)) (c_this_past_ring_1_detourCounts : (Nat → Int32)) (v_this_past_ring_2_dimension : Int32) (v_this_past_ring_2_alive : Int64) (v_this_past_ring_2_steps : Int32) (v_this_past_ring_2_messages : Int32) (c_this_past_ring_2_states : (Nat → Int32)) (c_this_past_ring_2_positions : (Nat → Int32)) (c_this_past_ring_2_goals : (Nat → Int32)) (c_this_past_ring_2_moveCounts : (Nat → Int32)) (c_this_past_ring_2_detourCounts : (Nat → Int32)) (v_this_past_ring_3_dimension : Int32) (v_this_past_ring_3_alive : Int64) (v_this_past_ring_3_steps : Int32) (v_this_past_ring_3_messages : Int32) (c_this_past_ring_3_states : (Nat → Int32)) (c_this_past_ring_3_positions : (Nat → Int32)) (c_this_past_ring_3_goals : (Nat → Int32)) (c_this_past_ring_3_moveCounts : (Nat → Int32)) (c_this_past_ring_3_detourCounts : (Nat → Int32)) (v_this_safety_dimension : Int32) (v_this_safety_changingRounds : Int32) (c_this_safety_levels : (Nat → Int32)) (c_this_safety_levelsBefore : (Nat → Int32)) (c_this_safety_vectorSets : (Nat → Int64)) : Option rt_X6_revive :=
zox (f_X6_requireNode a1 v_this_now_dimension) (fun u1 =>
zob (f_X6_contains v_this_now_alive a1) (fun u2 =>
if (u2 : Int32) = 0 then (
zob (f_X5_save v_this_past_next v_this_past_size v_this_past_ring_0_dimension v_this_past_ring_0_alive v_this_past_ring_0_steps v_this_past_ring_0_messages c_this_past_ring_0_states c_this_past_ring_0_positions c_this_past_ring_0_goals c_this_past_ring_0_moveCounts c_this_past_ring_0_detourCounts v_this_past_ring_1_dimension v_this_past_ring_1_alive v_this_past_ring_1_steps v_this_past_ring_1_messages c_this_past_ring_1_states c_this_past_ring_1_positions c_this_past_ring_1_goals c_this_past_ring_1_moveCounts c_this_past_ring_1_detourCounts v_this_past_ring_2_dimension v_this_past_ring_2_alive v_this_past_ring_2_steps v_this_past_ring_2_messages c_this_past_ring_2_states c_this_past_ring_2_positions c_this_past_ring_2_goals c_this_past_ring_2_moveCounts c_this_past_ring_2_detourCounts v_this_past_ring_3_dimension v_this_past_ring_3_alive v_this_past_ring_3_steps v_this_past_ring_3_messages c_this_past_ring_3_states c_this_past_ring_3_positions c_this_past_ring_3_goals c_this_past_ring_3_moveCounts c_this_past_ring_3_detourCounts v_this_now_dimension v_this_now_alive v_this_now_steps v_this_now_messages c_this_now_states c_this_now_positions c_this_now_goals c_this_now_moveCounts c_this_now_detourCounts) (fun u3 =>
zbd (A := Int64) (v_this_now_alive ||| (j_lshl 1 a1)) (fun x4 =>
zob (f_X6_refreshSafety v_this_now_dimension x4 v_this_safety_dimension v_this_safety_changingRounds c_this_safety_levels c_this_safety_levelsBefore c_this_safety_vectorSets) (fun u5 =>
zob (f_X6_nodeCount v_this_now_dimension) (fun u6 =>
zob (f_J13_bitCount_95d88 x4) (fun u7 =>
some (.inr ((u6 - u7), x4, u3.1, u3.2.1, u3.2.2.1, u3.2.2.2.1, u3.2.2.2.2.1, u3.2.2.2.2.2.1, u3.2.2.2.2.2.2.1, u3.2.2.2.2.2.2.2.1, u3.2.2.2.2.2.2.2.2.1, u3.2.2.2.2.2.2.2.2.2.1, u3.2.2.2.2.2.2.2.2.2.2.1, u3.2.2.2.2.2.2.2.2.2.2.2.1, u3.2.2.2.2.2.2.2.2.2.2.2.2.1, u3.2.2.2.2.2.2.2.2.2.2.2.2.2.1, u3.2.2.2.2.2.2.2.2.2.2.2.2.2.2.1, u3.2.2.2.2.2.2.2.2.2.2.2.2.2.2.2.1, u3.2.2.2.2.2.2.2.2.2.2.2.2.2.2.2.2.1, u3.2.2.2.2.2.2.2.2.2.2.2.2.2.2.2.2.2.1, u3.2.2.2.2.2.2.2.2.2.2.2.2.2.2.2.2.2.2.1, u3.2.2.2.2.2.2.2.2.2.2.2.2.2.2.2.2.2.2.2.1, u3.2.2.2.2.2.2.2.2.2.2.2.2.2.2.2.2.2.2.2.2.1, u3.2.2.2.2.2.2.2.2.2.2.2.2.2.2.2.2.2.2.2.2.2.1, u3.2.2.2.2.2.2.2.2.2.2.2.2.2.2.2.2.2.2.2.2.2.2.1, u3.2.2.2.2.2.2.2.2.2.2.2.2.2.2.2.2.2.2.2.2.2.2.2.1, u3.2.2.2.2.2.2.2.2.2.2.2.2.2.2.2.2.2.2.2.2.2.2.2.2.1, u3.2.2.2.2.2.2.2.2.2.2.2.2.2.2.2.2.2.2.2.2.2.2.2.2.2.1, u3.2.2.2.2.2.2.2.2.2.2.2.2.2.2.2.2.2.2.2.2.2.2.2.2.2.2.1, u3.2.2.2.2.2.2.2.2.2.2.2.2.2.2.2.2.2.2.2.2.2.2.2.2.2.2.2.1, u3.2.2.2.2.2.2.2.2.2.2.2.2.2.2.2.2.2.2.2.2.2.2.2.2.2.2.2.2.1, u3.2.2.2.2.2.2.2.2.2.2.2.2.2.2.2.2.2.2.2.2.2.2.2.2.2.2.2.2.2.1, u3.2.2.2.2.2.2.2.2.2.2.2.2.2.2.2.2.2.2.2.2.2.2.2.2.2.2.2.2.2.2.1, u3.2.2.2.2.2.2.2.2.2.2.2.2.2.2.2.2.2.2.2.2.2.2.2.2.2.2.2.2.2.2.2.1, u3.2.2.2.2.2.2.2.2.2.2.2.2.2.2.2.2.2.2.2.2.2.2.2.2.2.2.2.2.2.2.2.2.1, u3.2.2.2.2.2.2.2.2.2.2.2.2.2.2.2.2.2.2.2.2.2.2.2.2.2.2.2.2.2.2.2.2.2.1, u3.2.2.2.2.2.2.2.2.2.2.2.2.2.2.2.2.2.2.2.2.2.2.2.2.2.2.2.2.2.2.2.2.2.2.1, u3.2.2.2.2.2.2.2.2.2.2.2.2.2.2.2.2.2.2.2.2.2.2.2.2.2.2.2.2.2.2.2.2.2.2.2.1, u3.2.2.2.2.2.2.2.2.2.2.2.2.2.2.2.2.2.2.2.2.2.2.2.2.2.2.2.2.2.2.2.2.2.2.2.2.1, u3.2.2.2.2.2.2.2.2.2.2.2.2.2.2.2.2.2.2.2.2.2.2.2.2.2.2.2.2.2.2.2.2.2.2.2.2.2, u5.1, u5.2.1, u5.2.2.1, u5.2.2.2.1, u5.2.2.2.2)))))))) else (
some (.inl "java/lang/IllegalStateException"))))
abbrev rt0_X6_isAlive : Type := (Int32)
abbrev rt_X6_isAlive : Type := (String ⊕ rt0_X6_isAlive)
def f_X6_isAlive (a1 : Int32) (v_this_now_dimension : Int32) (v_this_now_alive : Int64) : Option rt_X6_isAlive :=
zox (f_X6_requireNode a1 v_this_now_dimension) (fun u1 =>
zob (f_X6_contains v_this_now_alive a1) (fun u2 =>
zgd (isb u2) (some (.inr u2))))
abbrev rt_J6_bitCount_0f7a4 : Type := (Int32)
def f_J6_bitCount_0f7a4 (a0 : Int32) : Option rt_J6_bitCount_0f7a4 :=
zbd (A := Int32) (a0 - ((j_iushr a0 1) &&& (1431655765 : Int32))) (fun x1 =>
zbd (A := Int32) ((x1 &&& (858993459 : Int32)) + ((j_iushr x1 2) &&& (858993459 : Int32))) (fun x2 =>
zbd (A := Int32) ((x2 + (j_iushr x2 4)) &&& (252645135 : Int32)) (fun x3 =>
zbd (A := Int32) (x3 + (j_iushr x3 8)) (fun x4 =>
zbd (A := Int32) (x4 + (j_iushr x4 16)) (fun x5 =>
some (x5 &&& (63 : Int32)))))))
abbrev rt0_X6_distance : Type := (Int32)
abbrev rt_X6_distance : Type := (String ⊕ rt0_X6_distance)
def f_X6_distance (a1 : Int32) (a2 : Int32) (v_this_now_dimension : Int32) : Option rt_X6_distance :=
zox (f_X6_requireNode a1 v_this_now_dimension) (fun u1 =>
zox (f_X6_requireNode a2 v_this_now_dimension) (fun u2 =>
zob (f_J6_bitCount_0f7a4 (a1 ^^^ a2)) (fun u3 =>
some (.inr u3))))
abbrev rt0_X6_requireLivingPair : Type := (Unit)
abbrev rt_X6_requireLivingPair : Type := (String ⊕ rt0_X6_requireLivingPair)
def f_X6_requireLivingPair (a1 : Int32) (a2 : Int32) (v_this_now_dimension : Int32) (v_this_now_alive : Int64) : Option rt_X6_requireLivingPair :=
zox (f_X6_requireNode a1 v_this_now_dimension) (fun u1 =>
zox (f_X6_requireNode a2 v_this_now_dimension) (fun u2 =>
zox (f_X6_requireAlive a1 v_this_now_alive) (fun u3 =>
zox (f_X6_requireAlive a2 v_this_now_alive) (fun u4 =>
some (.inr ())))))
abbrev rt_X6_lowNodes : Type := (Int64)
def f_X6_lowNodes (a0 : Int32) : Option rt_X6_lowNodes :=
zjp (T := Option rt_X6_lowNodes) (
some 0) (fun K20 =>
if (a0 : Int32) < 0 then (
K20) else (
if (6 : Int32) ≤ a0 then (
K20) else (
zgd (inb a0 6) (
some (lowN (a0 : Int32).toNatClampNeg)))))
abbrev rt_X6_neighboursOfSet : Type := (Int64)
def f_X6_neighboursOfSet (a0 : Int64) (a2 : Int32) : Option rt_X6_neighboursOfSet :=
zl2 (R := rt_X6_neighboursOfSet) (fun k5 (i3_5 : Int64) (i5_5 : Int32) =>
if (a2 : Int32) ≤ i5_5 then (
some i3_5) else (
zob (f_X6_lowNodes i5_5) (fun u1 =>
zbd (A := Int64) (i3_5 ||| (j_lshl (a0 &&& u1) ((1 : Int32) <<< (i5_5 &&& 31)))) (fun x2 =>
zbd (A := Int64) (x2 ||| ((j_lushr a0 ((1 : Int32) <<< (i5_5 &&& 31))) &&& u1)) (fun x3 =>
zbd (A := Int32) (i5_5 + 1) (fun x4 =>
k5 x3 x4)))))) zfu 0 0
abbrev rt0_X6_shortest : Type := (Int32)
abbrev rt_X6_shortest : Type := (String ⊕ rt0_X6_shortest)
def f_X6_shortest (a1 : Int32) (a2 : Int32) (v_this_now_dimension : Int32) (v_this_now_alive : Int64) : Option rt_X6_shortest :=
zox (f_X6_requireLivingPair a1 a2 v_this_now_dimension v_this_now_alive) (fun u1 =>
zbd (A := Int64) (j_lshl 1 a1) (fun x2 =>
zl2 (R := rt_X6_shortest) (fun k13 (i3_13 : Int64) (i5_13 : Int32) =>
if (64 : Int32) ≤ i5_13 then (
some (.inr (-1))) else (
zob (f_X6_contains i3_13 a2) (fun u3 =>
if (u3 : Int32) = 0 then (
zob (f_X6_neighboursOfSet i3_13 v_this_now_dimension) (fun u4 =>
zbd (A := Int64) (i3_13 ||| (u4 &&& v_this_now_alive)) (fun x5 =>
zbd (A := Int32) (i5_13 + 1) (fun x6 =>
k13 x5 x6)))) else (
some (.inr i5_13))))) zfu x2 0))
abbrev rt0_X6_level : Type := (Int32)
abbrev rt_X6_level : Type := (String ⊕ rt0_X6_level)
def f_X6_level (a1 : Int32) (v_this_now_dimension : Int32) (c_this_safety_levels : (Nat → Int32)) : Option rt_X6_level :=
zox (f_X6_requireNode a1 v_this_now_dimension) (fun u1 =>
zob (f_X2_levelOf a1 c_this_safety_levels) (fun u2 =>
some (.inr u2)))
abbrev rt_X6_rounds : Type := (Int32)
def f_X6_rounds (v_this_safety_changingRounds : Int32) : Option rt_X6_rounds :=
some v_this_safety_changingRounds
abbrev rt_X6_safeNodes : Type := (Int32)
def f_X6_safeNodes (v_this_now_dimension : Int32) (c_this_safety_levels : (Nat → Int32)) : Option rt_X6_safeNodes :=
zl2 (R := rt_X6_safeNodes) (fun k4 (i1_4 : Int32) (i2_4 : Int32) =>
zob (f_X6_nodeCount v_this_now_dimension) (fun u1 =>
if (u1 : Int32) ≤ i2_4 then (
some i1_4) else (
zob (f_X2_levelOf i2_4 c_this_safety_levels) (fun u2 =>
zjp (T := Int32 → Option rt_X6_safeNodes) (fun (i1_33 : Int32) =>
zbd (A := Int32) (i2_4 + 1) (fun x3 =>
k4 i1_33 x3)) (fun K33 =>
if (u2 : Int32) = v_this_now_dimension then (
zbd (A := Int32) (i1_4 + 1) (fun x4 =>
K33 x4)) else (
K33 i1_4)))))) zfu 0 0
abbrev rt0_X6_vectorBit : Type := (Int32)
abbrev rt_X6_vectorBit : Type := (String ⊕ rt0_X6_vectorBit)
def f_X6_vectorBit (a1 : Int32) (a2 : Int32) (v_this_now_dimension : Int32) (c_this_safety_vectorSets : (Nat → Int64)) : Option rt_X6_vectorBit :=
zox (f_X6_requireNode a1 v_this_now_dimension) (fun u1 =>
zjp (T := Option rt_X6_vectorBit) (
some (.inl "java/lang/IllegalArgumentException")) (fun K21 =>
if (a2 : Int32) < 1 then (
K21) else (
if (a2 : Int32) ≤ v_this_now_dimension then (
zob (f_X2_bitOf a1 a2 c_this_safety_vectorSets) (fun u2 =>
some (.inr u2))) else (
K21))))
abbrev rt_X6_decision : Type := (Int32)
def f_X6_decision (a1 : Int32) (a2 : Int32) (v_this_safety_dimension : Int32) (c_this_safety_levels : (Nat → Int32)) : Option rt_X6_decision :=
zbd (A := Int32) (a1 ^^^ a2) (fun x1 =>
zob (f_J6_bitCount_0f7a4 x1) (fun u2 =>
if (u2 : Int32) = 0 then (
some 0) else (
zob (f_X2_levelOf a1 c_this_safety_levels) (fun u3 =>
if (u2 : Int32) ≤ u3 then (
some 0) else (
zob (f_X2_bestLevel a1 x1 v_this_safety_dimension c_this_safety_levels) (fun u4 =>
if (u4 : Int32) < (u2 - (1 : Int32)) then (
zob (f_X2_spareOf x1 v_this_safety_dimension) (fun u5 =>
zob (f_X2_bestLevel a1 u5 v_this_safety_dimension c_this_safety_levels) (fun u6 =>
if (u6 : Int32) < (u2 + (1 : Int32)) then (
some 2) else (
some 1)))) else (
some 0)))))))
abbrev rt0_X6_decide : Type := (Int32)
abbrev rt_X6_decide : Type := (String ⊕ rt0_X6_decide)
def f_X6_decide (a1 : Int32) (a2 : Int32) (v_this_now_dimension : Int32) (v_this_now_alive : Int64) (v_this_safety_dimension : Int32) (c_this_safety_levels : (Nat → Int32)) : Option rt_X6_decide :=
zox (f_X6_requireLivingPair a1 a2 v_this_now_dimension v_this_now_alive) (fun u1 =>
zob (f_X6_decision a1 a2 v_this_safety_dimension c_this_safety_levels) (fun u2 =>
some (.inr u2)))
abbrev rt_X6_lengthOfRoute : Type := (Int32)
def f_X6_lengthOfRoute (a1 : Int32) (a2 : Int32) (v_this_safety_dimension : Int32) (c_this_safety_levels : (Nat → Int32)) : Option rt_X6_lengthOfRoute :=
zob (f_X6_decision a1 a2 v_this_safety_dimension c_this_safety_levels) (fun u1 =>
if (u1 : Int32) = 2 then (
some (-1)) else (
zob (f_J6_bitCount_0f7a4 (a1 ^^^ a2)) (fun u2 =>
if (u1 : Int32) = 1 then (
some (u2 + (2 : Int32))) else (
some u2))))
abbrev rt0_X6_routeLength : Type := (Int32)
abbrev rt_X6_routeLength : Type := (String ⊕ rt0_X6_routeLength)
def f_X6_routeLength (a1 : Int32) (a2 : Int32) (v_this_now_dimension : Int32) (v_this_now_alive : Int64) (v_this_safety_dimension : Int32) (c_this_safety_levels : (Nat → Int32)) : Option rt_X6_routeLength :=
zox (f_X6_requireLivingPair a1 a2 v_this_now_dimension v_this_now_alive) (fun u1 =>
zob (f_X6_lengthOfRoute a1 a2 v_this_safety_dimension c_this_safety_levels) (fun u2 =>
some (.inr u2)))
abbrev rt_X6_nodeOfRoute : Type := (Int32)
def f_X6_nodeOfRoute (a1 : Int32) (a2 : Int32) (a3 : Int32) (v_this_safety_dimension : Int32) (c_this_safety_levels : (Nat → Int32)) : Option rt_X6_nodeOfRoute :=
zob (f_X6_decision a1 a2 v_this_safety_dimension c_this_safety_levels) (fun u1 =>
zjp (T := Int32 → Option rt_X6_nodeOfRoute) (fun (s0_15 : Int32) =>
zl2 (R := rt_X6_nodeOfRoute) (fun k23 (i5_23 : Int32) (i6_23 : Int32) =>
if (a3 : Int32) ≤ i6_23 then (
some i5_23) else (
zbd (A := Int32) (i5_23 ^^^ a2) (fun x2 =>
zjp (T := Int32 → Option rt_X6_nodeOfRoute) (fun (s0_59 : Int32) =>
zob (f_X2_bestDimension i5_23 s0_59 v_this_safety_dimension c_this_safety_levels) (fun u3 =>
zob (f_X6_neighbour i5_23 u3) (fun u4 =>
zbd (A := Int32) (i6_23 + 1) (fun x5 =>
k23 u4 x5)))) (fun K59 =>
zjp (T := Option rt_X6_nodeOfRoute) (
K59 x2) (fun K57 =>
if (s0_15 : Int32) = 0 then (
K57) else (
if (i6_23 : Int32) = 0 then (
zob (f_X2_spareOf x2 v_this_safety_dimension) (fun u6 =>
K59 u6)) else (
K57))))))) zfu a1 0) (fun K15 =>
if (u1 : Int32) = 1 then (
K15 1) else (
K15 0)))
abbrev rt0_X6_routeNode : Type := (Int32)
abbrev rt_X6_routeNode : Type := (String ⊕ rt0_X6_routeNode)
def f_X6_routeNode (a1 : Int32) (a2 : Int32) (a3 : Int32) (v_this_now_dimension : Int32) (v_this_now_alive : Int64) (v_this_safety_dimension : Int32) (c_this_safety_levels : (Nat → Int32)) : Option rt_X6_routeNode :=
zox (f_X6_requireNode a1 v_this_now_dimension) (fun u1 =>
zox (f_X6_requireNode a2 v_this_now_dimension) (fun u2 =>
if (0 : Int32) ≤ a3 then (
zox (f_X6_requireAlive a1 v_this_now_alive) (fun u3 =>
zox (f_X6_requireAlive a2 v_this_now_alive) (fun u4 =>
zob (f_X6_lengthOfRoute a1 a2 v_this_safety_dimension c_this_safety_levels) (fun u5 =>
if (a3 : Int32) ≤ u5 then (
zob (f_X6_nodeOfRoute a1 a2 a3 v_this_safety_dimension c_this_safety_levels) (fun u6 =>
some (.inr u6))) else (
some (.inr (-1))))))) else (
some (.inl "java/lang/IllegalArgumentException"))))
abbrev rt0_X6_reach : Type := (Int32)
abbrev rt_X6_reach : Type := (String ⊕ rt0_X6_reach)
def f_X6_reach (a1 : Int32) (a2 : Int32) (v_this_now_dimension : Int32) (v_this_now_alive : Int64) (v_this_safety_dimension : Int32) (c_this_safety_levels : (Nat → Int32)) : Option rt_X6_reach :=
zox (f_X6_requireNode a1 v_this_now_dimension) (fun u1 =>
zjp (T := Option rt_X6_reach) (
some (.inl "java/lang/IllegalArgumentException")) (fun K14 =>
if (a2 : Int32) < 0 then (
K14) else (
if (a2 : Int32) ≤ 2 then (
zox (f_X6_requireAlive a1 v_this_now_alive) (fun u2 =>
zl2 (R := rt_X6_reach) (fun k34 (i3_34 : Int32) (i4_34 : Int32) =>
zob (f_X6_nodeCount v_this_now_dimension) (fun u3 =>
if (u3 : Int32) ≤ i4_34 then (
some (.inr i3_34)) else (
zjp (T := Int32 → Option rt_X6_reach) (fun (i3_78 : Int32) =>
zbd (A := Int32) (i4_34 + 1) (fun x4 =>
k34 i3_78 x4)) (fun K78 =>
if (i4_34 : Int32) = a1 then (
K78 i3_34) else (
zob (f_X6_contains v_this_now_alive i4_34) (fun u5 =>
if (u5 : Int32) = 0 then (
K78 i3_34) else (
zob (f_X6_decision a1 i4_34 v_this_safety_dimension c_this_safety_levels) (fun u6 =>
if (u6 : Int32) = a2 then (
zbd (A := Int32) (i3_34 + 1) (fun x7 =>
K78 x7)) else (
K78 i3_34))))))))) zfu 0 0)) else (
K14))))
abbrev rt0_X6_broadcastTime : Type := (Int32 × Int32 × (Nat → Int32) × (Nat → Int32) × (Nat → Int32))
abbrev rt_X6_broadcastTime : Type := (String ⊕ rt0_X6_broadcastTime)
def f_X6_broadcastTime (a1 : Int32) (a2 : Int32) (v_this_now_dimension : Int32) (v_this_now_alive : Int64) (v_this_safety_dimension : Int32) (c_this_safety_levels : (Nat → Int32)) (v_this_broadcast_receivers : Int32) (c_this_broadcast_times : (Nat → Int32)) (c_this_broadcast_lists : (Nat → Int32)) (c_this_broadcast_queue : (Nat → Int32)) : Option rt_X6_broadcastTime :=
zox (f_X6_requireNode a1 v_this_now_dimension) (fun u1 =>
zox (f_X6_requireNode a2 v_this_now_dimension) (fun u2 =>
zox (f_X6_requireAlive a1 v_this_now_alive) (fun u3 =>
zob (f_X0_run a1 v_this_now_alive v_this_broadcast_receivers c_this_broadcast_times c_this_broadcast_lists c_this_broadcast_queue v_this_safety_dimension c_this_safety_levels) (fun u4 =>
zob (f_X0_timeOf a2 u4.2.1) (fun u5 =>
some (.inr (u5, u4.1, u4.2.1, u4.2.2.1, u4.2.2.2)))))))
abbrev rt0_X6_broadcastSize : Type := (Int32 × Int32 × (Nat → Int32) × (Nat → Int32) × (Nat → Int32))
abbrev rt_X6_broadcastSize : Type := (String ⊕ rt0_X6_broadcastSize)
def f_X6_broadcastSize (a1 : Int32) (v_this_now_dimension : Int32) (v_this_now_alive : Int64) (v_this_safety_dimension : Int32) (c_this_safety_levels : (Nat → Int32)) (v_this_broadcast_receivers : Int32) (c_this_broadcast_times : (Nat → Int32)) (c_this_broadcast_lists : (Nat → Int32)) (c_this_broadcast_queue : (Nat → Int32)) : Option rt_X6_broadcastSize :=
zox (f_X6_requireNode a1 v_this_now_dimension) (fun u1 =>
zox (f_X6_requireAlive a1 v_this_now_alive) (fun u2 =>
zob (f_X0_run a1 v_this_now_alive v_this_broadcast_receivers c_this_broadcast_times c_this_broadcast_lists c_this_broadcast_queue v_this_safety_dimension c_this_safety_levels) (fun u3 =>
some (.inr (u3.1, u3.1, u3.2.1, u3.2.2.1, u3.2.2.2)))))
abbrev rt_X6_freeBases : Type := (Int64)
def f_X6_freeBases (a1 : Int32) (v_this_now_dimension : Int32) (v_this_now_alive : Int64) : Option rt_X6_freeBases :=
zl2 (R := rt_X6_freeBases) (fun k11 (i2_11 : Int64) (i4_11 : Int32) =>
if (v_this_now_dimension : Int32) ≤ i4_11 then (
some i2_11) else (
zob (f_X6_hasBit a1 i4_11) (fun u1 =>
zjp (T := Int64 → Option rt_X6_freeBases) (fun (i2_47 : Int64) =>
zbd (A := Int32) (i4_11 + 1) (fun x2 =>
k11 i2_47 x2)) (fun K47 =>
if (u1 : Int32) = 0 then (
K47 i2_11) else (
zob (f_X6_lowNodes i4_11) (fun u3 =>
zbd (A := Int64) (i2_11 &&& ((j_lushr i2_11 ((1 : Int32) <<< (i4_11 &&& 31))) &&& u3)) (fun x4 =>
K47 x4))))))) zfu v_this_now_alive 0
abbrev rt0_X6_freeSubcubes : Type := (Int32)
abbrev rt_X6_freeSubcubes : Type := (String ⊕ rt0_X6_freeSubcubes)
def f_X6_freeSubcubes (a1 : Int32) (v_this_now_dimension : Int32) (v_this_now_alive : Int64) : Option rt_X6_freeSubcubes :=
zjp (T := Option rt_X6_freeSubcubes) (
some (.inl "java/lang/IllegalArgumentException")) (fun K15 =>
if (a1 : Int32) < 0 then (
K15) else (
if (a1 : Int32) ≤ v_this_now_dimension then (
zl2 (R := rt_X6_freeSubcubes) (fun k29 (i2_29 : Int32) (i3_29 : Int32) =>
zob (f_X6_nodeCount v_this_now_dimension) (fun u1 =>
if (u1 : Int32) ≤ i3_29 then (
some (.inr i2_29)) else (
zob (f_J6_bitCount_0f7a4 i3_29) (fun u2 =>
zjp (T := Int32 → Option rt_X6_freeSubcubes) (fun (i2_56 : Int32) =>
zbd (A := Int32) (i3_29 + 1) (fun x3 =>
k29 i2_56 x3)) (fun K56 =>
if (u2 : Int32) = a1 then (
zob (f_X6_freeBases i3_29 v_this_now_dimension v_this_now_alive) (fun u4 =>
zob (f_J13_bitCount_95d88 u4) (fun u5 =>
zbd (A := Int32) (i2_29 + u5) (fun x6 =>
K56 x6)))) else (
K56 i2_29)))))) zfu 0 0) else (
K15)))
abbrev rt_X6_leastNode : Type := (Int32)
def f_X6_leastNode (a0 : Int64) : Option rt_X6_leastNode :=
zob (f_J13_bitCount_95d88 ((a0 &&& (-a0)) - (1 : Int64))) (fun u1 =>
some u1)
abbrev rt_X6_largestSubcube : Type := (Int32)
def f_X6_largestSubcube (v_this_now_dimension : Int32) (v_this_now_alive : Int64) : Option rt_X6_largestSubcube :=
zbd (A := Int32) (-1) (fun x1 =>
zbd (A := Int32) (-1) (fun x2 =>
zl3 (R := rt_X6_largestSubcube) (fun k6 (i1_6 : Int32) (i2_6 : Int32) (i3_6 : Int32) =>
zob (f_X6_nodeCount v_this_now_dimension) (fun u3 =>
if (u3 : Int32) ≤ i3_6 then (
some i1_6) else (
zob (f_X6_freeBases i3_6 v_this_now_dimension v_this_now_alive) (fun u4 =>
zjp (T := Int32 → Int32 → Option rt_X6_largestSubcube) (fun (i1_52 : Int32) (i2_52 : Int32) =>
zbd (A := Int32) (i3_6 + 1) (fun x5 =>
k6 i1_52 i2_52 x5)) (fun K52 =>
if ((lg_cmp u4 0) : Int32) = 0 then (
K52 i1_6 i2_6) else (
zob (f_J6_bitCount_0f7a4 i3_6) (fun u6 =>
if (u6 : Int32) ≤ i2_6 then (
K52 i1_6 i2_6) else (
zob (f_J6_bitCount_0f7a4 i3_6) (fun u7 =>
zob (f_X6_leastNode u4) (fun u8 =>
zbd (A := Int32) (((64 : Int32) * i3_6) + u8) (fun x9 =>
K52 x9 u7))))))))))) zfu x1 x2 0))
abbrev rt0_X6_disjointPaths : Type := (Int32 × Int32 × Int32 × Int32 × Int32 × Int64 × (Nat → Int32) × (Nat → Int32) × (Nat → Int32))
abbrev rt_X6_disjointPaths : Type := (String ⊕ rt0_X6_disjointPaths)
def f_X6_disjointPaths (a1 : Int32) (a2 : Int32) (v_this_now_dimension : Int32) (v_this_now_alive : Int64) (v_this_packing_found : Int32) (v_this_packing_source : Int32) (v_this_packing_goal : Int32) (v_this_packing_dimension : Int32) (v_this_packing_alive : Int64) (c_this_packing_leaving : (Nat → Int32)) (c_this_packing_cameFrom : (Nat → Int32)) (c_this_packing_queue : (Nat → Int32)) : Option rt_X6_disjointPaths :=
zox (f_X6_requireNode a1 v_this_now_dimension) (fun u1 =>
zox (f_X6_requireNode a2 v_this_now_dimension) (fun u2 =>
if (a1 : Int32) = a2 then (
some (.inl "java/lang/IllegalArgumentException")) else (
zox (f_X6_requireAlive a1 v_this_now_alive) (fun u3 =>
zox (f_X6_requireAlive a2 v_this_now_alive) (fun u4 =>
zob (f_X1_largest a1 a2 v_this_now_dimension v_this_now_alive v_this_packing_found v_this_packing_source v_this_packing_goal v_this_packing_dimension v_this_packing_alive c_this_packing_leaving c_this_packing_cameFrom c_this_packing_queue) (fun u5 =>
some (.inr (u5.1, u5.2.1, u5.2.2.1, u5.2.2.2.1, u5.2.2.2.2.1, u5.2.2.2.2.2.1, u5.2.2.2.2.2.2.1, u5.2.2.2.2.2.2.2.1, u5.2.2.2.2.2.2.2.2))))))))
abbrev rt0_X6_send : Type := (Int32 × Int32 × (Nat → Int32) × (Nat → Int32) × (Nat → Int32) × (Nat → Int32) × (Nat → Int32) × Int32 × Int32 × Int32 × Int64 × Int32 × Int32 × (Nat → Int32) × (Nat → Int32) × (Nat → Int32) × (Nat → Int32) × (Nat → Int32) × Int32 × Int64 × Int32 × Int32 × (Nat → Int32) × (Nat → Int32) × (Nat → Int32) × (Nat → Int32) × (Nat → Int32) × Int32 × Int64 × Int32 × Int32 × (Nat → Int32) × (Nat → Int32) × (Nat → Int32) × (Nat → Int32) × (Nat → Int32) × Int32 × Int64 × Int32 × Int32 × (Nat → Int32) × (Nat → Int32) × (Nat → Int32) × (Nat → Int32) × (Nat → Int32))
abbrev rt_X6_send : Type := (String ⊕ rt0_X6_send)
def f_X6_send (a1 : Int32) (a2 : Int32) (v_this_now_dimension : Int32) (v_this_now_alive : Int64) (v_this_now_steps : Int32) (v_this_now_messages : Int32) (c_this_now_states : (Nat → Int32)) (c_this_now_positions : (Nat → Int32)) (c_this_now_goals : (Nat → Int32)) (c_this_now_moveCounts : (Nat → Int32)) (c_this_now_detourCounts : (Nat → Int32)) (v_this_past_next : Int32) (v_this_past_size : Int32) (v_this_past_ring_0_dimension : Int32) (v_this_past_ring_0_alive : Int64) (v_this_past_ring_0_steps : Int32) (v_this_past_ring_0_messages : Int32) (c_this_past_ring_0_states : (Nat → Int32)) (c_this_past_ring_0_positions : (Nat → Int32)) (c_this_past_ring_0_goals : (Nat → Int32)) (c_this_past_ring_0_moveCounts : (Nat → Int32)) (c_this_past_ring_0_detourCounts : (Nat → Int32)) (v_this_past_ring_1_dimension : Int32) (v_this_past_ring_1_alive : Int64) (v_this_past_ring_1_steps : Int32) (v_this_past_ring_1_messages : Int32) (c_this_past_ring_1_states : (Nat → Int32)) (c_this_past_ring_1_positions : (Nat → Int32)) (c_this_past_ring_1_goals : (Nat → Int32)) (c_this_past_ring_1_moveCounts : (Nat → Int32)) (c_this_past_ring_1_detourCounts : (Nat → Int32)) (v_this_past_ring_2_dimension : Int32) (v_this_past_ring_2_alive : Int64) (v_this_past_ring_2_steps : Int32) (v_this_past_ring_2_messages : Int32) (c_this_past_ring_2_states : (Nat → Int32)) (c_this_past_ring_2_positions : (Nat → Int32)) (c_this_past_ring_2_goals : (Nat → Int32)) (c_this_past_ring_2_moveCounts : (Nat → Int32)) (c_this_past_ring_2_detourCounts : (Nat → Int32)) (v_this_past_ring_3_dimension : Int32) (v_this_past_ring_3_alive : Int64) (v_this_past_ring_3_steps : Int32) (v_this_past_ring_3_messages : Int32) (c_this_past_ring_3_states : (Nat → Int32)) (c_this_past_ring_3_positions : (Nat → Int32)) (c_this_past_ring_3_goals : (Nat → Int32)) (c_this_past_ring_3_moveCounts : (Nat → Int32)) (c_this_past_ring_3_detourCounts : (Nat → Int32)) : Option rt_X6_send :=
zox (f_X6_requireLivingPair a1 a2 v_this_now_dimension v_this_now_alive) (fun u1 =>
if (v_this_now_messages : Int32) < 24 then (
zob (f_X5_save v_this_past_next v_this_past_size v_this_past_ring_0_dimension v_this_past_ring_0_alive v_this_past_ring_0_steps v_this_past_ring_0_messages c_this_past_ring_0_states c_this_past_ring_0_positions c_this_past_ring_0_goals c_this_past_ring_0_moveCounts c_this_past_ring_0_detourCounts v_this_past_ring_1_dimension v_this_past_ring_1_alive v_this_past_ring_1_steps v_this_past_ring_1_messages c_this_past_ring_1_states c_this_past_ring_1_positions c_this_past_ring_1_goals c_this_past_ring_1_moveCounts c_this_past_ring_1_detourCounts v_this_past_ring_2_dimension v_this_past_ring_2_alive v_this_past_ring_2_steps v_this_past_ring_2_messages c_this_past_ring_2_states c_this_past_ring_2_positions c_this_past_ring_2_goals c_this_past_ring_2_moveCounts c_this_past_ring_2_detourCounts v_this_past_ring_3_dimension v_this_past_ring_3_alive v_this_past_ring_3_steps v_this_past_ring_3_messages c_this_past_ring_3_states c_this_past_ring_3_positions c_this_past_ring_3_goals c_this_past_ring_3_moveCounts c_this_past_ring_3_detourCounts v_this_now_dimension v_this_now_alive v_this_now_steps v_this_now_messages c_this_now_states c_this_now_positions c_this_now_goals c_this_now_moveCounts c_this_now_detourCounts) (fun u2 =>
zob (f_X3_addMessage a1 a2 v_this_now_messages c_this_now_states c_this_now_positions c_this_now_goals c_this_now_moveCounts c_this_now_detourCounts) (fun u3 =>
some (.inr (u3.1, u3.2.1, u3.2.2.1, u3.2.2.2.1, u3.2.2.2.2.1, u3.2.2.2.2.2.1, u3.2.2.2.2.2.2, u2.1, u2.2.1, u2.2.2.1, u2.2.2.2.1, u2.2.2.2.2.1, u2.2.2.2.2.2.1, u2.2.2.2.2.2.2.1, u2.2.2.2.2.2.2.2.1, u2.2.2.2.2.2.2.2.2.1, u2.2.2.2.2.2.2.2.2.2.1, u2.2.2.2.2.2.2.2.2.2.2.1, u2.2.2.2.2.2.2.2.2.2.2.2.1, u2.2.2.2.2.2.2.2.2.2.2.2.2.1, u2.2.2.2.2.2.2.2.2.2.2.2.2.2.1, u2.2.2.2.2.2.2.2.2.2.2.2.2.2.2.1, u2.2.2.2.2.2.2.2.2.2.2.2.2.2.2.2.1, u2.2.2.2.2.2.2.2.2.2.2.2.2.2.2.2.2.1, u2.2.2.2.2.2.2.2.2.2.2.2.2.2.2.2.2.2.1, u2.2.2.2.2.2.2.2.2.2.2.2.2.2.2.2.2.2.2.1, u2.2.2.2.2.2.2.2.2.2.2.2.2.2.2.2.2.2.2.2.1, u2.2.2.2.2.2.2.2.2.2.2.2.2.2.2.2.2.2.2.2.2.1, u2.2.2.2.2.2.2.2.2.2.2.2.2.2.2.2.2.2.2.2.2.2.1, u2.2.2.2.2.2.2.2.2.2.2.2.2.2.2.2.2.2.2.2.2.2.2.1, u2.2.2.2.2.2.2.2.2.2.2.2.2.2.2.2.2.2.2.2.2.2.2.2.1, u2.2.2.2.2.2.2.2.2.2.2.2.2.2.2.2.2.2.2.2.2.2.2.2.2.1, u2.2.2.2.2.2.2.2.2.2.2.2.2.2.2.2.2.2.2.2.2.2.2.2.2.2.1, u2.2.2.2.2.2.2.2.2.2.2.2.2.2.2.2.2.2.2.2.2.2.2.2.2.2.2.1, u2.2.2.2.2.2.2.2.2.2.2.2.2.2.2.2.2.2.2.2.2.2.2.2.2.2.2.2.1, u2.2.2.2.2.2.2.2.2.2.2.2.2.2.2.2.2.2.2.2.2.2.2.2.2.2.2.2.2.1, u2.2.2.2.2.2.2.2.2.2.2.2.2.2.2.2.2.2.2.2.2.2.2.2.2.2.2.2.2.2.1, u2.2.2.2.2.2.2.2.2.2.2.2.2.2.2.2.2.2.2.2.2.2.2.2.2.2.2.2.2.2.2.1, u2.2.2.2.2.2.2.2.2.2.2.2.2.2.2.2.2.2.2.2.2.2.2.2.2.2.2.2.2.2.2.2.1, u2.2.2.2.2.2.2.2.2.2.2.2.2.2.2.2.2.2.2.2.2.2.2.2.2.2.2.2.2.2.2.2.2.1, u2.2.2.2.2.2.2.2.2.2.2.2.2.2.2.2.2.2.2.2.2.2.2.2.2.2.2.2.2.2.2.2.2.2.1, u2.2.2.2.2.2.2.2.2.2.2.2.2.2.2.2.2.2.2.2.2.2.2.2.2.2.2.2.2.2.2.2.2.2.2.1, u2.2.2.2.2.2.2.2.2.2.2.2.2.2.2.2.2.2.2.2.2.2.2.2.2.2.2.2.2.2.2.2.2.2.2.2.1, u2.2.2.2.2.2.2.2.2.2.2.2.2.2.2.2.2.2.2.2.2.2.2.2.2.2.2.2.2.2.2.2.2.2.2.2.2.1, u2.2.2.2.2.2.2.2.2.2.2.2.2.2.2.2.2.2.2.2.2.2.2.2.2.2.2.2.2.2.2.2.2.2.2.2.2.2))))) else (
some (.inl "java/lang/IllegalStateException")))
abbrev rt0_X6_step : Type := (Int32 × Int32 × (Nat → Int32) × (Nat → Int32) × (Nat → Int32) × (Nat → Int32) × Int32 × Int32 × Int32 × Int64 × Int32 × Int32 × (Nat → Int32) × (Nat → Int32) × (Nat → Int32) × (Nat → Int32) × (Nat → Int32) × Int32 × Int64 × Int32 × Int32 × (Nat → Int32) × (Nat → Int32) × (Nat → Int32) × (Nat → Int32) × (Nat → Int32) × Int32 × Int64 × Int32 × Int32 × (Nat → Int32) × (Nat → Int32) × (Nat → Int32) × (Nat → Int32) × (Nat → Int32) × Int32 × Int64 × Int32 × Int32 × (Nat → Int32) × (Nat → Int32) × (Nat → Int32) × (Nat → Int32) × (Nat → Int32) × (Nat → Int32))
abbrev rt_X6_step : Type := (String ⊕ rt0_X6_step)
def f_X6_step (a1 : Int32) (v_this_now_dimension : Int32) (v_this_now_alive : Int64) (v_this_now_steps : Int32) (v_this_now_messages : Int32) (c_this_now_states : (Nat → Int32)) (c_this_now_positions : (Nat → Int32)) (c_this_now_goals : (Nat → Int32)) (c_this_now_moveCounts : (Nat → Int32)) (c_this_now_detourCounts : (Nat → Int32)) (v_this_past_next : Int32) (v_this_past_size : Int32) (v_this_past_ring_0_dimension : Int32) (v_this_past_ring_0_alive : Int64) (v_this_past_ring_0_steps : Int32) (v_this_past_ring_0_messages : Int32) (c_this_past_ring_0_states : (Nat → Int32)) (c_this_past_ring_0_positions : (Nat → Int32)) (c_this_past_ring_0_goals : (Nat → Int32)) (c_this_past_ring_0_moveCounts : (Nat → Int32)) (c_this_past_ring_0_detourCounts : (Nat → Int32)) (v_this_past_ring_1_dimension : Int32) (v_this_past_ring_1_alive : Int64) (v_this_past_ring_1_steps : Int32) (v_this_past_ring_1_messages : Int32) (c_this_past_ring_1_states : (Nat → Int32)) (c_this_past_ring_1_positions : (Nat → Int32)) (c_this_past_ring_1_goals : (Nat → Int32)) (c_this_past_ring_1_moveCounts : (Nat → Int32)) (c_this_past_ring_1_detourCounts : (Nat → Int32)) (v_this_past_ring_2_dimension : Int32) (v_this_past_ring_2_alive : Int64) (v_this_past_ring_2_steps : Int32) (v_this_past_ring_2_messages : Int32) (c_this_past_ring_2_states : (Nat → Int32)) (c_this_past_ring_2_positions : (Nat → Int32)) (c_this_past_ring_2_goals : (Nat → Int32)) (c_this_past_ring_2_moveCounts : (Nat → Int32)) (c_this_past_ring_2_detourCounts : (Nat → Int32)) (v_this_past_ring_3_dimension : Int32) (v_this_past_ring_3_alive : Int64) (v_this_past_ring_3_steps : Int32) (v_this_past_ring_3_messages : Int32) (c_this_past_ring_3_states : (Nat → Int32)) (c_this_past_ring_3_positions : (Nat → Int32)) (c_this_past_ring_3_goals : (Nat → Int32)) (c_this_past_ring_3_moveCounts : (Nat → Int32)) (c_this_past_ring_3_detourCounts : (Nat → Int32)) (v_this_safety_dimension : Int32) (c_this_safety_levels : (Nat → Int32)) (c_this_traffic_usedWays : (Nat → Int32)) : Option rt_X6_step :=
zjp (T := Option rt_X6_step) (
some (.inl "java/lang/IllegalArgumentException")) (fun K11 =>
if (a1 : Int32) < 1 then (
K11) else (
if (a1 : Int32) ≤ 20 then (
zob (f_X5_save v_this_past_next v_this_past_size v_this_past_ring_0_dimension v_this_past_ring_0_alive v_this_past_ring_0_steps v_this_past_ring_0_messages c_this_past_ring_0_states c_this_past_ring_0_positions c_this_past_ring_0_goals c_this_past_ring_0_moveCounts c_this_past_ring_0_detourCounts v_this_past_ring_1_dimension v_this_past_ring_1_alive v_this_past_ring_1_steps v_this_past_ring_1_messages c_this_past_ring_1_states c_this_past_ring_1_positions c_this_past_ring_1_goals c_this_past_ring_1_moveCounts c_this_past_ring_1_detourCounts v_this_past_ring_2_dimension v_this_past_ring_2_alive v_this_past_ring_2_steps v_this_past_ring_2_messages c_this_past_ring_2_states c_this_past_ring_2_positions c_this_past_ring_2_goals c_this_past_ring_2_moveCounts c_this_past_ring_2_detourCounts v_this_past_ring_3_dimension v_this_past_ring_3_alive v_this_past_ring_3_steps v_this_past_ring_3_messages c_this_past_ring_3_states c_this_past_ring_3_positions c_this_past_ring_3_goals c_this_past_ring_3_moveCounts c_this_past_ring_3_detourCounts v_this_now_dimension v_this_now_alive v_this_now_steps v_this_now_messages c_this_now_states c_this_now_positions c_this_now_goals c_this_now_moveCounts c_this_now_detourCounts) (fun u1 =>
zl8 (R := rt_X6_step) (fun k36 (i2_36 : Int32) (i3_36 : Int32) (v_this_now_steps_36 : Int32) (c_this_now_states_36 : (Nat → Int32)) (c_this_now_positions_36 : (Nat → Int32)) (c_this_now_moveCounts_36 : (Nat → Int32)) (c_this_now_detourCounts_36 : (Nat → Int32)) (c_this_traffic_usedWays_36 : (Nat → Int32)) =>
if (a1 : Int32) ≤ i3_36 then (
some (.inr (i2_36, v_this_now_steps_36, c_this_now_states_36, c_this_now_positions_36, c_this_now_moveCounts_36, c_this_now_detourCounts_36, u1.1, u1.2.1, u1.2.2.1, u1.2.2.2.1, u1.2.2.2.2.1, u1.2.2.2.2.2.1, u1.2.2.2.2.2.2.1, u1.2.2.2.2.2.2.2.1, u1.2.2.2.2.2.2.2.2.1, u1.2.2.2.2.2.2.2.2.2.1, u1.2.2.2.2.2.2.2.2.2.2.1, u1.2.2.2.2.2.2.2.2.2.2.2.1, u1.2.2.2.2.2.2.2.2.2.2.2.2.1, u1.2.2.2.2.2.2.2.2.2.2.2.2.2.1, u1.2.2.2.2.2.2.2.2.2.2.2.2.2.2.1, u1.2.2.2.2.2.2.2.2.2.2.2.2.2.2.2.1, u1.2.2.2.2.2.2.2.2.2.2.2.2.2.2.2.2.1, u1.2.2.2.2.2.2.2.2.2.2.2.2.2.2.2.2.2.1, u1.2.2.2.2.2.2.2.2.2.2.2.2.2.2.2.2.2.2.1, u1.2.2.2.2.2.2.2.2.2.2.2.2.2.2.2.2.2.2.2.1, u1.2.2.2.2.2.2.2.2.2.2.2.2.2.2.2.2.2.2.2.2.1, u1.2.2.2.2.2.2.2.2.2.2.2.2.2.2.2.2.2.2.2.2.2.1, u1.2.2.2.2.2.2.2.2.2.2.2.2.2.2.2.2.2.2.2.2.2.2.1, u1.2.2.2.2.2.2.2.2.2.2.2.2.2.2.2.2.2.2.2.2.2.2.2.1, u1.2.2.2.2.2.2.2.2.2.2.2.2.2.2.2.2.2.2.2.2.2.2.2.2.1, u1.2.2.2.2.2.2.2.2.2.2.2.2.2.2.2.2.2.2.2.2.2.2.2.2.2.1, u1.2.2.2.2.2.2.2.2.2.2.2.2.2.2.2.2.2.2.2.2.2.2.2.2.2.2.1, u1.2.2.2.2.2.2.2.2.2.2.2.2.2.2.2.2.2.2.2.2.2.2.2.2.2.2.2.1, u1.2.2.2.2.2.2.2.2.2.2.2.2.2.2.2.2.2.2.2.2.2.2.2.2.2.2.2.2.1, u1.2.2.2.2.2.2.2.2.2.2.2.2.2.2.2.2.2.2.2.2.2.2.2.2.2.2.2.2.2.1, u1.2.2.2.2.2.2.2.2.2.2.2.2.2.2.2.2.2.2.2.2.2.2.2.2.2.2.2.2.2.2.1, u1.2.2.2.2.2.2.2.2.2.2.2.2.2.2.2.2.2.2.2.2.2.2.2.2.2.2.2.2.2.2.2.1, u1.2.2.2.2.2.2.2.2.2.2.2.2.2.2.2.2.2.2.2.2.2.2.2.2.2.2.2.2.2.2.2.2.1, u1.2.2.2.2.2.2.2.2.2.2.2.2.2.2.2.2.2.2.2.2.2.2.2.2.2.2.2.2.2.2.2.2.2.1, u1.2.2.2.2.2.2.2.2.2.2.2.2.2.2.2.2.2.2.2.2.2.2.2.2.2.2.2.2.2.2.2.2.2.2.1, u1.2.2.2.2.2.2.2.2.2.2.2.2.2.2.2.2.2.2.2.2.2.2.2.2.2.2.2.2.2.2.2.2.2.2.2.1, u1.2.2.2.2.2.2.2.2.2.2.2.2.2.2.2.2.2.2.2.2.2.2.2.2.2.2.2.2.2.2.2.2.2.2.2.2.1, u1.2.2.2.2.2.2.2.2.2.2.2.2.2.2.2.2.2.2.2.2.2.2.2.2.2.2.2.2.2.2.2.2.2.2.2.2.2, c_this_traffic_usedWays_36))) else (
zob (f_X4_oneStep c_this_traffic_usedWays_36 v_this_now_steps_36 v_this_now_messages c_this_now_states_36 c_this_now_positions_36 c_this_now_goals c_this_now_moveCounts_36 c_this_now_detourCounts_36 v_this_safety_dimension c_this_safety_levels) (fun u2 =>
zbd (A := Int32) (i2_36 + u2.1) (fun x3 =>
zbd (A := Int32) (i3_36 + 1) (fun x4 =>
k36 x3 x4 u2.2.2.1 u2.2.2.2.1 u2.2.2.2.2.1 u2.2.2.2.2.2.1 u2.2.2.2.2.2.2 u2.2.1))))) zfu 0 0 v_this_now_steps c_this_now_states c_this_now_positions c_this_now_moveCounts c_this_now_detourCounts c_this_traffic_usedWays)) else (
K11)))
abbrev rt0_X6_requireMessage : Type := (Unit)
abbrev rt_X6_requireMessage : Type := (String ⊕ rt0_X6_requireMessage)
def f_X6_requireMessage (a1 : Int32) (v_this_now_messages : Int32) : Option rt_X6_requireMessage :=
zjp (T := Option rt_X6_requireMessage) (
some (.inl "java/lang/IllegalArgumentException")) (fun K15 =>
if (a1 : Int32) < 0 then (
K15) else (
if (a1 : Int32) < v_this_now_messages then (
some (.inr ())) else (
K15)))
abbrev rt0_X6_state : Type := (Int32)
abbrev rt_X6_state : Type := (String ⊕ rt0_X6_state)
def f_X6_state (a1 : Int32) (v_this_now_messages : Int32) (c_this_now_states : (Nat → Int32)) : Option rt_X6_state :=
zox (f_X6_requireMessage a1 v_this_now_messages) (fun u1 =>
zob (f_X6_read 24 a1 c_this_now_states) (fun u2 =>
some (.inr u2)))
abbrev rt0_X6_position : Type := (Int32)
abbrev rt_X6_position : Type := (String ⊕ rt0_X6_position)
def f_X6_position (a1 : Int32) (v_this_now_messages : Int32) (c_this_now_positions : (Nat → Int32)) : Option rt_X6_position :=
zox (f_X6_requireMessage a1 v_this_now_messages) (fun u1 =>
zob (f_X6_read 24 a1 c_this_now_positions) (fun u2 =>
some (.inr u2)))
abbrev rt0_X6_moves : Type := (Int32)
abbrev rt_X6_moves : Type := (String ⊕ rt0_X6_moves)
def f_X6_moves (a1 : Int32) (v_this_now_messages : Int32) (c_this_now_moveCounts : (Nat → Int32)) : Option rt_X6_moves :=
zox (f_X6_requireMessage a1 v_this_now_messages) (fun u1 =>
zob (f_X6_read 24 a1 c_this_now_moveCounts) (fun u2 =>
some (.inr u2)))
abbrev rt0_X6_count : Type := (Int32)
abbrev rt_X6_count : Type := (String ⊕ rt0_X6_count)
def f_X6_count (a1 : Int32) (v_this_now_messages : Int32) (c_this_now_states : (Nat → Int32)) : Option rt_X6_count :=
zjp (T := Option rt_X6_count) (
some (.inl "java/lang/IllegalArgumentException")) (fun K9 =>
if (a1 : Int32) < 0 then (
K9) else (
if (a1 : Int32) ≤ 2 then (
zl2 (R := rt_X6_count) (fun k23 (i2_23 : Int32) (i3_23 : Int32) =>
if (v_this_now_messages : Int32) ≤ i3_23 then (
some (.inr i2_23)) else (
zob (f_X6_read 24 i3_23 c_this_now_states) (fun u1 =>
zjp (T := Int32 → Option rt_X6_count) (fun (i2_52 : Int32) =>
zbd (A := Int32) (i3_23 + 1) (fun x2 =>
k23 i2_52 x2)) (fun K52 =>
if (u1 : Int32) = a1 then (
zbd (A := Int32) (i2_23 + 1) (fun x3 =>
K52 x3)) else (
K52 i2_23))))) zfu 0 0) else (
K9)))
abbrev rt0_X6_undo : Type := (Int32 × Int32 × Int64 × Int32 × Int32 × (Nat → Int32) × (Nat → Int32) × (Nat → Int32) × (Nat → Int32) × (Nat → Int32) × Int32 × Int32 × Int32 × Int32 × (Nat → Int32) × (Nat → Int32) × (Nat → Int64))
abbrev rt_X6_undo : Type := (String ⊕ rt0_X6_undo)
def f_X6_undo (v_this_now_dimension : Int32) (v_this_now_alive : Int64) (v_this_now_steps : Int32) (v_this_now_messages : Int32) (c_this_now_states : (Nat → Int32)) (c_this_now_positions : (Nat → Int32)) (c_this_now_goals : (Nat → Int32)) (c_this_now_moveCounts : (Nat → Int32)) (c_this_now_detourCounts : (Nat → Int32)) (v_this_past_next : Int32) (v_this_past_size : Int32) (v_this_past_ring_0_dimension : Int32) (v_this_past_ring_0_alive : Int64) (v_this_past_ring_0_steps : Int32) (v_this_past_ring_0_messages : Int32) (c_this_past_ring_0_states : (Nat → Int32)) (c_this_past_ring_0_positions : (Nat → Int32)) (c_this_past_ring_0_goals : (Nat → Int32)) (c_this_past_ring_0_moveCounts : (Nat → Int32)) (c_this_past_ring_0_detourCounts : (Nat → Int32)) (v_this_past_ring_1_dimension : Int32) (v_this_past_ring_1_alive : Int64) (v_this_past_ring_1_steps : Int32) (v_this_past_ring_1_messages : Int32) (c_this_past_ring_1_states : (Nat → Int32)) (c_this_past_ring_1_positions : (Nat → Int32)) (c_this_past_ring_1_goals : (Nat → Int32)) (c_this_past_ring_1_moveCounts : (Nat → Int32)) (c_this_past_ring_1_detourCounts : (Nat → Int32)) (v_this_past_ring_2_dimension : Int32) (v_this_past_ring_2_alive : Int64) (v_this_past_ring_2_steps : Int32) (v_this_past_ring_2_messages : Int32) (c_this_past_ring_2_states : (Nat → Int32)) (c_this_past_ring_2_positions : (Nat → Int32)) (c_this_past_ring_2_goals : (Nat → Int32)) (c_this_past_ring_2_moveCounts : (Nat → Int32)) (c_this_past_ring_2_detourCounts : (Nat → Int32)) (v_this_past_ring_3_dimension : Int32) (v_this_past_ring_3_alive : Int64) (v_this_past_ring_3_steps : Int32) (v_this_past_ring_3_messages : Int32) (c_this_past_ring_3_states : (Nat → Int32)) (c_this_past_ring_3_positions : (Nat → Int32)) (c_this_past_ring_3_goals : (Nat → Int32)) (c_this_past_ring_3_moveCounts : (Nat → Int32)) (c_this_past_ring_3_detourCounts : (Nat → Int32)) (v_this_safety_dimension : Int32) (v_this_safety_changingRounds : Int32) (c_this_safety_levels : (Nat → Int32)) (c_this_safety_levelsBefore : (Nat → Int32)) (c_this_safety_vectorSets : (Nat → Int64)) : Option rt_X6_undo :=
if (v_this_past_size : Int32) = 0 then (
some (.inl "java/lang/IllegalStateException")) else (
zob (f_X5_restoreInto v_this_past_next v_this_past_size v_this_past_ring_0_dimension v_this_past_ring_0_alive v_this_past_ring_0_steps v_this_past_ring_0_messages c_this_past_ring_0_states c_this_past_ring_0_positions c_this_past_ring_0_goals c_this_past_ring_0_moveCounts c_this_past_ring_0_detourCounts v_this_past_ring_1_dimension v_this_past_ring_1_alive v_this_past_ring_1_steps v_this_past_ring_1_messages c_this_past_ring_1_states c_this_past_ring_1_positions c_this_past_ring_1_goals c_this_past_ring_1_moveCounts c_this_past_ring_1_detourCounts v_this_past_ring_2_dimension v_this_past_ring_2_alive v_this_past_ring_2_steps v_this_past_ring_2_messages c_this_past_ring_2_states c_this_past_ring_2_positions c_this_past_ring_2_goals c_this_past_ring_2_moveCounts c_this_past_ring_2_detourCounts v_this_past_ring_3_dimension v_this_past_ring_3_alive v_this_past_ring_3_steps v_this_past_ring_3_messages c_this_past_ring_3_states c_this_past_ring_3_positions c_this_past_ring_3_goals c_this_past_ring_3_moveCounts c_this_past_ring_3_detourCounts v_this_now_dimension v_this_now_alive v_this_now_steps v_this_now_messages c_this_now_states c_this_now_positions c_this_now_goals c_this_now_moveCounts c_this_now_detourCounts) (fun u1 =>
zob (f_X6_refreshSafety u1.2.2.1 u1.2.2.2.1 v_this_safety_dimension v_this_safety_changingRounds c_this_safety_levels c_this_safety_levelsBefore c_this_safety_vectorSets) (fun u2 =>
some (.inr (u1.2.1, u1.2.2.1, u1.2.2.2.1, u1.2.2.2.2.1, u1.2.2.2.2.2.1, u1.2.2.2.2.2.2.1, u1.2.2.2.2.2.2.2.1, u1.2.2.2.2.2.2.2.2.1, u1.2.2.2.2.2.2.2.2.2.1, u1.2.2.2.2.2.2.2.2.2.2, u1.1, u1.2.1, u2.1, u2.2.1, u2.2.2.1, u2.2.2.2.1, u2.2.2.2.2)))))
abbrev rt_L_cell : Type := (Int32)
def f_L_cell (n_p0 : Nat) (a1 : Int32) (c_p0 : (Nat → Int32)) : Option rt_L_cell :=
if ((Int32.ofNat n_p0) : Int32) ≤ a1 then (
some ((916318735 : Int32) * (a1 + (1 : Int32)))) else (
zgd (inb a1 n_p0) (
some (c_p0 (a1 : Int32).toNatClampNeg)))
abbrev rt_L_low : Type := (Int32)
def f_L_low (a0 : Int32) (a1 : Int32) : Option rt_L_low :=
zgd (decide (a1 ≠ 0)) (
some ((a0 &&& (2147483647 : Int32)) - (a0 &&& (2147483647 : Int32)) / a1 * a1))
abbrev rt_L_ones : Type := (Int32)
def f_L_ones (a0 : Int32) : Option rt_L_ones :=
zl2 (R := rt_L_ones) (fun k4 (i1_4 : Int32) (i2_4 : Int32) =>
if (i2_4 : Int32) = 0 then (
some i1_4) else (
zbd (A := Int32) (i1_4 + 1) (fun x1 =>
zbd (A := Int32) (i2_4 &&& (i2_4 - (1 : Int32))) (fun x2 =>
k4 x1 x2)))) zfu 0 a0
abbrev rt_L_setDimension : Type := (Int32 × Int32 × Int64 × Int32 × Int32 × Int32 × Int32 × Int32 × Int64 × Int32 × Int32 × (Nat → Int32) × (Nat → Int32) × (Nat → Int32) × (Nat → Int32) × (Nat → Int32) × Int32 × Int64 × Int32 × Int32 × (Nat → Int32) × (Nat → Int32) × (Nat → Int32) × (Nat → Int32) × (Nat → Int32) × Int32 × Int64 × Int32 × Int32 × (Nat → Int32) × (Nat → Int32) × (Nat → Int32) × (Nat → Int32) × (Nat → Int32) × Int32 × Int64 × Int32 × Int32 × (Nat → Int32) × (Nat → Int32) × (Nat → Int32) × (Nat → Int32) × (Nat → Int32) × Int32 × Int32 × (Nat → Int32) × (Nat → Int32) × (Nat → Int64))
def f_L_setDimension (a1 : Int32) (v_p0_now_dimension : Int32) (v_p0_now_alive : Int64) (v_p0_now_steps : Int32) (v_p0_now_messages : Int32) (c_p0_now_states : (Nat → Int32)) (c_p0_now_positions : (Nat → Int32)) (c_p0_now_goals : (Nat → Int32)) (c_p0_now_moveCounts : (Nat → Int32)) (c_p0_now_detourCounts : (Nat → Int32)) (v_p0_past_next : Int32) (v_p0_past_size : Int32) (v_p0_past_ring_0_dimension : Int32) (v_p0_past_ring_0_alive : Int64) (v_p0_past_ring_0_steps : Int32) (v_p0_past_ring_0_messages : Int32) (c_p0_past_ring_0_states : (Nat → Int32)) (c_p0_past_ring_0_positions : (Nat → Int32)) (c_p0_past_ring_0_goals : (Nat → Int32)) (c_p0_past_ring_0_moveCounts : (Nat → Int32)) (c_p0_past_ring_0_detourCounts : (Nat → Int32)) (v_p0_past_ring_1_dimension : Int32) (v_p0_past_ring_1_alive : Int64) (v_p0_past_ring_1_steps : Int32) (v_p0_past_ring_1_messages : Int32) (c_p0_past_ring_1_states : (Nat → Int32)) (c_p0_past_ring_1_positions : (Nat → Int32)) (c_p0_past_ring_1_goals : (Nat → Int32)) (c_p0_past_ring_1_moveCounts : (Nat → Int32)) (c_p0_past_ring_1_detourCounts : (Nat → Int32)) (v_p0_past_ring_2_dimension : Int32) (v_p0_past_ring_2_alive : Int64) (v_p0_past_ring_2_steps : Int32) (v_p0_past_ring_2_messages : Int32) (c_p0_past_ring_2_states : (Nat → Int32)) (c_p0_past_ring_2_positions : (Nat → Int32)) (c_p0_past_ring_2_goals : (Nat → Int32)) (c_p0_past_ring_2_moveCounts : (Nat → Int32)) (c_p0_past_ring_2_detourCounts : (Nat → Int32)) (v_p0_past_ring_3_dimension : Int32) (v_p0_past_ring_3_alive : Int64) (v_p0_past_ring_3_steps : Int32) (v_p0_past_ring_3_messages : Int32) (c_p0_past_ring_3_states : (Nat → Int32)) (c_p0_past_ring_3_positions : (Nat → Int32)) (c_p0_past_ring_3_goals : (Nat → Int32)) (c_p0_past_ring_3_moveCounts : (Nat → Int32)) (c_p0_past_ring_3_detourCounts : (Nat → Int32)) (v_p0_safety_dimension : Int32) (v_p0_safety_changingRounds : Int32) (c_p0_safety_levels : (Nat → Int32)) (c_p0_safety_levelsBefore : (Nat → Int32)) (c_p0_safety_vectorSets : (Nat → Int64)) : Option rt_L_setDimension :=
zcx (f_X6_setDimension a1 v_p0_now_dimension v_p0_now_alive v_p0_now_steps v_p0_now_messages c_p0_now_states c_p0_now_positions c_p0_now_goals c_p0_now_moveCounts c_p0_now_detourCounts v_p0_past_next v_p0_past_size v_p0_past_ring_0_dimension v_p0_past_ring_0_alive v_p0_past_ring_0_steps v_p0_past_ring_0_messages c_p0_past_ring_0_states c_p0_past_ring_0_positions c_p0_past_ring_0_goals c_p0_past_ring_0_moveCounts c_p0_past_ring_0_detourCounts v_p0_past_ring_1_dimension v_p0_past_ring_1_alive v_p0_past_ring_1_steps v_p0_past_ring_1_messages c_p0_past_ring_1_states c_p0_past_ring_1_positions c_p0_past_ring_1_goals c_p0_past_ring_1_moveCounts c_p0_past_ring_1_detourCounts v_p0_past_ring_2_dimension v_p0_past_ring_2_alive v_p0_past_ring_2_steps v_p0_past_ring_2_messages c_p0_past_ring_2_states c_p0_past_ring_2_positions c_p0_past_ring_2_goals c_p0_past_ring_2_moveCounts c_p0_past_ring_2_detourCounts v_p0_past_ring_3_dimension v_p0_past_ring_3_alive v_p0_past_ring_3_steps v_p0_past_ring_3_messages c_p0_past_ring_3_states c_p0_past_ring_3_positions c_p0_past_ring_3_goals c_p0_past_ring_3_moveCounts c_p0_past_ring_3_detourCounts v_p0_safety_dimension v_p0_safety_changingRounds c_p0_safety_levels c_p0_safety_levelsBefore c_p0_safety_vectorSets) (fun E => if E = "java/lang/IllegalArgumentException" then some ((-1000), v_p0_now_dimension, v_p0_now_alive, v_p0_now_steps, v_p0_now_messages, v_p0_past_next, v_p0_past_size, v_p0_past_ring_0_dimension, v_p0_past_ring_0_alive, v_p0_past_ring_0_steps, v_p0_past_ring_0_messages, c_p0_past_ring_0_states, c_p0_past_ring_0_positions, c_p0_past_ring_0_goals, c_p0_past_ring_0_moveCounts, c_p0_past_ring_0_detourCounts, v_p0_past_ring_1_dimension, v_p0_past_ring_1_alive, v_p0_past_ring_1_steps, v_p0_past_ring_1_messages, c_p0_past_ring_1_states, c_p0_past_ring_1_positions, c_p0_past_ring_1_goals, c_p0_past_ring_1_moveCounts, c_p0_past_ring_1_detourCounts, v_p0_past_ring_2_dimension, v_p0_past_ring_2_alive, v_p0_past_ring_2_steps, v_p0_past_ring_2_messages, c_p0_past_ring_2_states, c_p0_past_ring_2_positions, c_p0_past_ring_2_goals, c_p0_past_ring_2_moveCounts, c_p0_past_ring_2_detourCounts, v_p0_past_ring_3_dimension, v_p0_past_ring_3_alive, v_p0_past_ring_3_steps, v_p0_past_ring_3_messages, c_p0_past_ring_3_states, c_p0_past_ring_3_positions, c_p0_past_ring_3_goals, c_p0_past_ring_3_moveCounts, c_p0_past_ring_3_detourCounts, v_p0_safety_dimension, v_p0_safety_changingRounds, c_p0_safety_levels, c_p0_safety_levelsBefore, c_p0_safety_vectorSets) else none) (fun u1 =>
zbd (A := Int32) u1.1 (fun x2 =>
some (x2, u1.2.1, u1.2.2.1, u1.2.2.2.1, u1.2.2.2.2.1, u1.2.2.2.2.2.1, u1.2.2.2.2.2.2.1, u1.2.2.2.2.2.2.2.1, u1.2.2.2.2.2.2.2.2.1, u1.2.2.2.2.2.2.2.2.2.1, u1.2.2.2.2.2.2.2.2.2.2.1, u1.2.2.2.2.2.2.2.2.2.2.2.1, u1.2.2.2.2.2.2.2.2.2.2.2.2.1, u1.2.2.2.2.2.2.2.2.2.2.2.2.2.1, u1.2.2.2.2.2.2.2.2.2.2.2.2.2.2.1, u1.2.2.2.2.2.2.2.2.2.2.2.2.2.2.2.1, u1.2.2.2.2.2.2.2.2.2.2.2.2.2.2.2.2.1, u1.2.2.2.2.2.2.2.2.2.2.2.2.2.2.2.2.2.1, u1.2.2.2.2.2.2.2.2.2.2.2.2.2.2.2.2.2.2.1, u1.2.2.2.2.2.2.2.2.2.2.2.2.2.2.2.2.2.2.2.1, u1.2.2.2.2.2.2.2.2.2.2.2.2.2.2.2.2.2.2.2.2.1, u1.2.2.2.2.2.2.2.2.2.2.2.2.2.2.2.2.2.2.2.2.2.1, u1.2.2.2.2.2.2.2.2.2.2.2.2.2.2.2.2.2.2.2.2.2.2.1, u1.2.2.2.2.2.2.2.2.2.2.2.2.2.2.2.2.2.2.2.2.2.2.2.1, u1.2.2.2.2.2.2.2.2.2.2.2.2.2.2.2.2.2.2.2.2.2.2.2.2.1, u1.2.2.2.2.2.2.2.2.2.2.2.2.2.2.2.2.2.2.2.2.2.2.2.2.2.1, u1.2.2.2.2.2.2.2.2.2.2.2.2.2.2.2.2.2.2.2.2.2.2.2.2.2.2.1, u1.2.2.2.2.2.2.2.2.2.2.2.2.2.2.2.2.2.2.2.2.2.2.2.2.2.2.2.1, u1.2.2.2.2.2.2.2.2.2.2.2.2.2.2.2.2.2.2.2.2.2.2.2.2.2.2.2.2.1, u1.2.2.2.2.2.2.2.2.2.2.2.2.2.2.2.2.2.2.2.2.2.2.2.2.2.2.2.2.2.1, u1.2.2.2.2.2.2.2.2.2.2.2.2.2.2.2.2.2.2.2.2.2.2.2.2.2.2.2.2.2.2.1, u1.2.2.2.2.2.2.2.2.2.2.2.2.2.2.2.2.2.2.2.2.2.2.2.2.2.2.2.2.2.2.2.1, u1.2.2.2.2.2.2.2.2.2.2.2.2.2.2.2.2.2.2.2.2.2.2.2.2.2.2.2.2.2.2.2.2.1, u1.2.2.2.2.2.2.2.2.2.2.2.2.2.2.2.2.2.2.2.2.2.2.2.2.2.2.2.2.2.2.2.2.2.1, u1.2.2.2.2.2.2.2.2.2.2.2.2.2.2.2.2.2.2.2.2.2.2.2.2.2.2.2.2.2.2.2.2.2.2.1, u1.2.2.2.2.2.2.2.2.2.2.2.2.2.2.2.2.2.2.2.2.2.2.2.2.2.2.2.2.2.2.2.2.2.2.2.1, u1.2.2.2.2.2.2.2.2.2.2.2.2.2.2.2.2.2.2.2.2.2.2.2.2.2.2.2.2.2.2.2.2.2.2.2.2.1, u1.2.2.2.2.2.2.2.2.2.2.2.2.2.2.2.2.2.2.2.2.2.2.2.2.2.2.2.2.2.2.2.2.2.2.2.2.2.1, u1.2.2.2.2.2.2.2.2.2.2.2.2.2.2.2.2.2.2.2.2.2.2.2.2.2.2.2.2.2.2.2.2.2.2.2.2.2.2.1, u1.2.2.2.2.2.2.2.2.2.2.2.2.2.2.2.2.2.2.2.2.2.2.2.2.2.2.2.2.2.2.2.2.2.2.2.2.2.2.2.1, u1.2.2.2.2.2.2.2.2.2.2.2.2.2.2.2.2.2.2.2.2.2.2.2.2.2.2.2.2.2.2.2.2.2.2.2.2.2.2.2.2.1, u1.2.2.2.2.2.2.2.2.2.2.2.2.2.2.2.2.2.2.2.2.2.2.2.2.2.2.2.2.2.2.2.2.2.2.2.2.2.2.2.2.2.1, u1.2.2.2.2.2.2.2.2.2.2.2.2.2.2.2.2.2.2.2.2.2.2.2.2.2.2.2.2.2.2.2.2.2.2.2.2.2.2.2.2.2.2.1, u1.2.2.2.2.2.2.2.2.2.2.2.2.2.2.2.2.2.2.2.2.2.2.2.2.2.2.2.2.2.2.2.2.2.2.2.2.2.2.2.2.2.2.2.1, u1.2.2.2.2.2.2.2.2.2.2.2.2.2.2.2.2.2.2.2.2.2.2.2.2.2.2.2.2.2.2.2.2.2.2.2.2.2.2.2.2.2.2.2.2.1, u1.2.2.2.2.2.2.2.2.2.2.2.2.2.2.2.2.2.2.2.2.2.2.2.2.2.2.2.2.2.2.2.2.2.2.2.2.2.2.2.2.2.2.2.2.2.1, u1.2.2.2.2.2.2.2.2.2.2.2.2.2.2.2.2.2.2.2.2.2.2.2.2.2.2.2.2.2.2.2.2.2.2.2.2.2.2.2.2.2.2.2.2.2.2.1, u1.2.2.2.2.2.2.2.2.2.2.2.2.2.2.2.2.2.2.2.2.2.2.2.2.2.2.2.2.2.2.2.2.2.2.2.2.2.2.2.2.2.2.2.2.2.2.2)))
abbrev rt_L_kill : Type := (Int32 × Int64 × (Nat → Int32) × Int32 × Int32 × Int32 × Int64 × Int32 × Int32 × (Nat → Int32) × (Nat → Int32) × (Nat → Int32) × (Nat → Int32) × (Nat → Int32) × Int32 × Int64 × Int32 × Int32 × (Nat → Int32) × (Nat → Int32) × (Nat → Int32) × (Nat → Int32) × (Nat → Int32) × Int32 × Int64 × Int32 × Int32 × (Nat → Int32) × (Nat → Int32) × (Nat → Int32) × (Nat → Int32) × (Nat → Int32) × Int32 × Int64 × Int32 × Int32 × (Nat → Int32) × (Nat → Int32) × (Nat → Int32) × (Nat → Int32) × (Nat → Int32) × Int32 × Int32 × (Nat → Int32) × (Nat → Int32) × (Nat → Int64))
def f_L_kill (a1 : Int32) (v_p0_now_dimension : Int32) (v_p0_now_alive : Int64) (v_p0_now_steps : Int32) (v_p0_now_messages : Int32) (c_p0_now_states : (Nat → Int32)) (c_p0_now_positions : (Nat → Int32)) (c_p0_now_goals : (Nat → Int32)) (c_p0_now_moveCounts : (Nat → Int32)) (c_p0_now_detourCounts : (Nat → Int32)) (v_p0_past_next : Int32) (v_p0_past_size : Int32) (v_p0_past_ring_0_dimension : Int32) (v_p0_past_ring_0_alive : Int64) (v_p0_past_ring_0_steps : Int32) (v_p0_past_ring_0_messages : Int32) (c_p0_past_ring_0_states : (Nat → Int32)) (c_p0_past_ring_0_positions : (Nat → Int32)) (c_p0_past_ring_0_goals : (Nat → Int32)) (c_p0_past_ring_0_moveCounts : (Nat → Int32)) (c_p0_past_ring_0_detourCounts : (Nat → Int32)) (v_p0_past_ring_1_dimension : Int32) (v_p0_past_ring_1_alive : Int64) (v_p0_past_ring_1_steps : Int32) (v_p0_past_ring_1_messages : Int32) (c_p0_past_ring_1_states : (Nat → Int32)) (c_p0_past_ring_1_positions : (Nat → Int32)) (c_p0_past_ring_1_goals : (Nat → Int32)) (c_p0_past_ring_1_moveCounts : (Nat → Int32)) (c_p0_past_ring_1_detourCounts : (Nat → Int32)) (v_p0_past_ring_2_dimension : Int32) (v_p0_past_ring_2_alive : Int64) (v_p0_past_ring_2_steps : Int32) (v_p0_past_ring_2_messages : Int32) (c_p0_past_ring_2_states : (Nat → Int32)) (c_p0_past_ring_2_positions : (Nat → Int32)) (c_p0_past_ring_2_goals : (Nat → Int32)) (c_p0_past_ring_2_moveCounts : (Nat → Int32)) (c_p0_past_ring_2_detourCounts : (Nat → Int32)) (v_p0_past_ring_3_dimension : Int32) (v_p0_past_ring_3_alive : Int64) (v_p0_past_ring_3_steps : Int32) (v_p0_past_ring_3_messages : Int32) (c_p0_past_ring_3_states : (Nat → Int32)) (c_p0_past_ring_3_positions : (Nat → Int32)) (c_p0_past_ring_3_goals : (Nat → Int32)) (c_p0_past_ring_3_moveCounts : (Nat → Int32)) (c_p0_past_ring_3_detourCounts : (Nat → Int32)) (v_p0_safety_dimension : Int32) (v_p0_safety_changingRounds : Int32) (c_p0_safety_levels : (Nat → Int32)) (c_p0_safety_levelsBefore : (Nat → Int32)) (c_p0_safety_vectorSets : (Nat → Int64)) : Option rt_L_kill :=
zcx (f_X6_kill a1 v_p0_now_dimension v_p0_now_alive v_p0_now_steps v_p0_now_messages c_p0_now_states c_p0_now_positions c_p0_now_goals c_p0_now_moveCounts c_p0_now_detourCounts v_p0_past_next v_p0_past_size v_p0_past_ring_0_dimension v_p0_past_ring_0_alive v_p0_past_ring_0_steps v_p0_past_ring_0_messages c_p0_past_ring_0_states c_p0_past_ring_0_positions c_p0_past_ring_0_goals c_p0_past_ring_0_moveCounts c_p0_past_ring_0_detourCounts v_p0_past_ring_1_dimension v_p0_past_ring_1_alive v_p0_past_ring_1_steps v_p0_past_ring_1_messages c_p0_past_ring_1_states c_p0_past_ring_1_positions c_p0_past_ring_1_goals c_p0_past_ring_1_moveCounts c_p0_past_ring_1_detourCounts v_p0_past_ring_2_dimension v_p0_past_ring_2_alive v_p0_past_ring_2_steps v_p0_past_ring_2_messages c_p0_past_ring_2_states c_p0_past_ring_2_positions c_p0_past_ring_2_goals c_p0_past_ring_2_moveCounts c_p0_past_ring_2_detourCounts v_p0_past_ring_3_dimension v_p0_past_ring_3_alive v_p0_past_ring_3_steps v_p0_past_ring_3_messages c_p0_past_ring_3_states c_p0_past_ring_3_positions c_p0_past_ring_3_goals c_p0_past_ring_3_moveCounts c_p0_past_ring_3_detourCounts v_p0_safety_dimension v_p0_safety_changingRounds c_p0_safety_levels c_p0_safety_levelsBefore c_p0_safety_vectorSets) (fun E => if E = "java/lang/IllegalArgumentException" then some ((-1000), v_p0_now_alive, c_p0_now_states, v_p0_past_next, v_p0_past_size, v_p0_past_ring_0_dimension, v_p0_past_ring_0_alive, v_p0_past_ring_0_steps, v_p0_past_ring_0_messages, c_p0_past_ring_0_states, c_p0_past_ring_0_positions, c_p0_past_ring_0_goals, c_p0_past_ring_0_moveCounts, c_p0_past_ring_0_detourCounts, v_p0_past_ring_1_dimension, v_p0_past_ring_1_alive, v_p0_past_ring_1_steps, v_p0_past_ring_1_messages, c_p0_past_ring_1_states, c_p0_past_ring_1_positions, c_p0_past_ring_1_goals, c_p0_past_ring_1_moveCounts, c_p0_past_ring_1_detourCounts, v_p0_past_ring_2_dimension, v_p0_past_ring_2_alive, v_p0_past_ring_2_steps, v_p0_past_ring_2_messages, c_p0_past_ring_2_states, c_p0_past_ring_2_positions, c_p0_past_ring_2_goals, c_p0_past_ring_2_moveCounts, c_p0_past_ring_2_detourCounts, v_p0_past_ring_3_dimension, v_p0_past_ring_3_alive, v_p0_past_ring_3_steps, v_p0_past_ring_3_messages, c_p0_past_ring_3_states, c_p0_past_ring_3_positions, c_p0_past_ring_3_goals, c_p0_past_ring_3_moveCounts, c_p0_past_ring_3_detourCounts, v_p0_safety_dimension, v_p0_safety_changingRounds, c_p0_safety_levels, c_p0_safety_levelsBefore, c_p0_safety_vectorSets) else if E = "java/lang/IllegalStateException" then some ((-2000), v_p0_now_alive, c_p0_now_states, v_p0_past_next, v_p0_past_size, v_p0_past_ring_0_dimension, v_p0_past_ring_0_alive, v_p0_past_ring_0_steps, v_p0_past_ring_0_messages, c_p0_past_ring_0_states, c_p0_past_ring_0_positions, c_p0_past_ring_0_goals, c_p0_past_ring_0_moveCounts, c_p0_past_ring_0_detourCounts, v_p0_past_ring_1_dimension, v_p0_past_ring_1_alive, v_p0_past_ring_1_steps, v_p0_past_ring_1_messages, c_p0_past_ring_1_states, c_p0_past_ring_1_positions, c_p0_past_ring_1_goals, c_p0_past_ring_1_moveCounts, c_p0_past_ring_1_detourCounts, v_p0_past_ring_2_dimension, v_p0_past_ring_2_alive, v_p0_past_ring_2_steps, v_p0_past_ring_2_messages, c_p0_past_ring_2_states, c_p0_past_ring_2_positions, c_p0_past_ring_2_goals, c_p0_past_ring_2_moveCounts, c_p0_past_ring_2_detourCounts, v_p0_past_ring_3_dimension, v_p0_past_ring_3_alive, v_p0_past_ring_3_steps, v_p0_past_ring_3_messages, c_p0_past_ring_3_states, c_p0_past_ring_3_positions, c_p0_past_ring_3_goals, c_p0_past_ring_3_moveCounts, c_p0_past_ring_3_detourCounts, v_p0_safety_dimension, v_p0_safety_changingRounds, c_p0_safety_levels, c_p0_safety_levelsBefore, c_p0_safety_vectorSets) else none) (fun u1 =>
zbd (A := Int32) u1.1 (fun x2 =>
some (x2, u1.2.1, u1.2.2.1, u1.2.2.2.1, u1.2.2.2.2.1, u1.2.2.2.2.2.1, u1.2.2.2.2.2.2.1, u1.2.2.2.2.2.2.2.1, u1.2.2.2.2.2.2.2.2.1, u1.2.2.2.2.2.2.2.2.2.1, u1.2.2.2.2.2.2.2.2.2.2.1, u1.2.2.2.2.2.2.2.2.2.2.2.1, u1.2.2.2.2.2.2.2.2.2.2.2.2.1, u1.2.2.2.2.2.2.2.2.2.2.2.2.2.1, u1.2.2.2.2.2.2.2.2.2.2.2.2.2.2.1, u1.2.2.2.2.2.2.2.2.2.2.2.2.2.2.2.1, u1.2.2.2.2.2.2.2.2.2.2.2.2.2.2.2.2.1, u1.2.2.2.2.2.2.2.2.2.2.2.2.2.2.2.2.2.1, u1.2.2.2.2.2.2.2.2.2.2.2.2.2.2.2.2.2.2.1, u1.2.2.2.2.2.2.2.2.2.2.2.2.2.2.2.2.2.2.2.1, u1.2.2.2.2.2.2.2.2.2.2.2.2.2.2.2.2.2.2.2.2.1, u1.2.2.2.2.2.2.2.2.2.2.2.2.2.2.2.2.2.2.2.2.2.1, u1.2.2.2.2.2.2.2.2.2.2.2.2.2.2.2.2.2.2.2.2.2.2.1, u1.2.2.2.2.2.2.2.2.2.2.2.2.2.2.2.2.2.2.2.2.2.2.2.1, u1.2.2.2.2.2.2.2.2.2.2.2.2.2.2.2.2.2.2.2.2.2.2.2.2.1, u1.2.2.2.2.2.2.2.2.2.2.2.2.2.2.2.2.2.2.2.2.2.2.2.2.2.1, u1.2.2.2.2.2.2.2.2.2.2.2.2.2.2.2.2.2.2.2.2.2.2.2.2.2.2.1, u1.2.2.2.2.2.2.2.2.2.2.2.2.2.2.2.2.2.2.2.2.2.2.2.2.2.2.2.1, u1.2.2.2.2.2.2.2.2.2.2.2.2.2.2.2.2.2.2.2.2.2.2.2.2.2.2.2.2.1, u1.2.2.2.2.2.2.2.2.2.2.2.2.2.2.2.2.2.2.2.2.2.2.2.2.2.2.2.2.2.1, u1.2.2.2.2.2.2.2.2.2.2.2.2.2.2.2.2.2.2.2.2.2.2.2.2.2.2.2.2.2.2.1, u1.2.2.2.2.2.2.2.2.2.2.2.2.2.2.2.2.2.2.2.2.2.2.2.2.2.2.2.2.2.2.2.1, u1.2.2.2.2.2.2.2.2.2.2.2.2.2.2.2.2.2.2.2.2.2.2.2.2.2.2.2.2.2.2.2.2.1, u1.2.2.2.2.2.2.2.2.2.2.2.2.2.2.2.2.2.2.2.2.2.2.2.2.2.2.2.2.2.2.2.2.2.1, u1.2.2.2.2.2.2.2.2.2.2.2.2.2.2.2.2.2.2.2.2.2.2.2.2.2.2.2.2.2.2.2.2.2.2.1, u1.2.2.2.2.2.2.2.2.2.2.2.2.2.2.2.2.2.2.2.2.2.2.2.2.2.2.2.2.2.2.2.2.2.2.2.1, u1.2.2.2.2.2.2.2.2.2.2.2.2.2.2.2.2.2.2.2.2.2.2.2.2.2.2.2.2.2.2.2.2.2.2.2.2.1, u1.2.2.2.2.2.2.2.2.2.2.2.2.2.2.2.2.2.2.2.2.2.2.2.2.2.2.2.2.2.2.2.2.2.2.2.2.2.1, u1.2.2.2.2.2.2.2.2.2.2.2.2.2.2.2.2.2.2.2.2.2.2.2.2.2.2.2.2.2.2.2.2.2.2.2.2.2.2.1, u1.2.2.2.2.2.2.2.2.2.2.2.2.2.2.2.2.2.2.2.2.2.2.2.2.2.2.2.2.2.2.2.2.2.2.2.2.2.2.2.1, u1.2.2.2.2.2.2.2.2.2.2.2.2.2.2.2.2.2.2.2.2.2.2.2.2.2.2.2.2.2.2.2.2.2.2.2.2.2.2.2.2.1, u1.2.2.2.2.2.2.2.2.2.2.2.2.2.2.2.2.2.2.2.2.2.2.2.2.2.2.2.2.2.2.2.2.2.2.2.2.2.2.2.2.2.1, u1.2.2.2.2.2.2.2.2.2.2.2.2.2.2.2.2.2.2.2.2.2.2.2.2.2.2.2.2.2.2.2.2.2.2.2.2.2.2.2.2.2.2.1, u1.2.2.2.2.2.2.2.2.2.2.2.2.2.2.2.2.2.2.2.2.2.2.2.2.2.2.2.2.2.2.2.2.2.2.2.2.2.2.2.2.2.2.2.1, u1.2.2.2.2.2.2.2.2.2.2.2.2.2.2.2.2.2.2.2.2.2.2.2.2.2.2.2.2.2.2.2.2.2.2.2.2.2.2.2.2.2.2.2.2.1, u1.2.2.2.2.2.2.2.2.2.2.2.2.2.2.2.2.2.2.2.2.2.2.2.2.2.2.2.2.2.2.2.2.2.2.2.2.2.2.2.2.2.2.2.2.2)))
abbrev rt_L_revive : Type := (Int32 × Int64 × Int32 × Int32 × Int32 × Int64 × Int32 × Int32 × (Nat → Int32) × (Nat → Int32) × (Nat → Int32) × (Nat → Int32) × (Nat → Int32) × Int32 × Int64 × Int32 × Int32 × (Nat → Int32) × (Nat → Int32) × (Nat → Int32) × (Nat → Int32) × (Nat → Int32) × Int32 × Int64 × Int32 × Int32 × (Nat → Int32) × (Nat → Int32) × (Nat → Int32) × (Nat → Int32) × (Nat → Int32) × Int32 × Int64 × Int32 × Int32 × (Nat → Int32) × (Nat → Int32) × (Nat → Int32) × (Nat → Int32) × (Nat → Int32) × Int32 × Int32 × (Nat → Int32) × (Nat → Int32) × (Nat → Int64))
def f_L_revive (a1 : Int32) (v_p0_now_dimension : Int32) (v_p0_now_alive : Int64) (v_p0_now_steps : Int32) (v_p0_now_messages : Int32) (c_p0_now_states : (Nat → Int32)) (c_p0_now_positions : (Nat → Int32)) (c_p0_now_goals : (Nat → Int32)) (c_p0_now_moveCounts : (Nat → Int32)) (c_p0_now_detourCounts : (Nat → Int32)) (v_p0_past_next : Int32) (v_p0_past_size : Int32) (v_p0_past_ring_0_dimension : Int32) (v_p0_past_ring_0_alive : Int64) (v_p0_past_ring_0_steps : Int32) (v_p0_past_ring_0_messages : Int32) (c_p0_past_ring_0_states : (Nat → Int32)) (c_p0_past_ring_0_positions : (Nat → Int32)) (c_p0_past_ring_0_goals : (Nat → Int32)) (c_p0_past_ring_0_moveCounts : (Nat → Int32)) (c_p0_past_ring_0_detourCounts : (Nat → Int32)) (v_p0_past_ring_1_dimension : Int32) (v_p0_past_ring_1_alive : Int64) (v_p0_past_ring_1_steps : Int32) (v_p0_past_ring_1_messages : Int32) (c_p0_past_ring_1_states : (Nat → Int32)) (c_p0_past_ring_1_positions : (Nat → Int32)) (c_p0_past_ring_1_goals : (Nat → Int32)) (c_p0_past_ring_1_moveCounts : (Nat → Int32)) (c_p0_past_ring_1_detourCounts : (Nat → Int32)) (v_p0_past_ring_2_dimension : Int32) (v_p0_past_ring_2_alive : Int64) (v_p0_past_ring_2_steps : Int32) (v_p0_past_ring_2_messages : Int32) (c_p0_past_ring_2_states : (Nat → Int32)) (c_p0_past_ring_2_positions : (Nat → Int32)) (c_p0_past_ring_2_goals : (Nat → Int32)) (c_p0_past_ring_2_moveCounts : (Nat → Int32)) (c_p0_past_ring_2_detourCounts : (Nat → Int32)) (v_p0_past_ring_3_dimension : Int32) (v_p0_past_ring_3_alive : Int64) (v_p0_past_ring_3_steps : Int32) (v_p0_past_ring_3_messages : Int32) (c_p0_past_ring_3_states : (Nat → Int32)) (c_p0_past_ring_3_positions : (Nat → Int32)) (c_p0_past_ring_3_goals : (Nat → Int32)) (c_p0_past_ring_3_moveCounts : (Nat → Int32)) (c_p0_past_ring_3_detourCounts : (Nat → Int32)) (v_p0_safety_dimension : Int32) (v_p0_safety_changingRounds : Int32) (c_p0_safety_levels : (Nat → Int32)) (c_p0_safety_levelsBefore : (Nat → Int32)) (c_p0_safety_vectorSets : (Nat → Int64)) : Option rt_L_revive :=
zcx (f_X6_revive a1 v_p0_now_dimension v_p0_now_alive v_p0_now_steps v_p0_now_messages c_p0_now_states c_p0_now_positions c_p0_now_goals c_p0_now_moveCounts c_p0_now_detourCounts v_p0_past_next v_p0_past_size v_p0_past_ring_0_dimension v_p0_past_ring_0_alive v_p0_past_ring_0_steps v_p0_past_ring_0_messages c_p0_past_ring_0_states c_p0_past_ring_0_positions c_p0_past_ring_0_goals c_p0_past_ring_0_moveCounts c_p0_past_ring_0_detourCounts v_p0_past_ring_1_dimension v_p0_past_ring_1_alive v_p0_past_ring_1_steps v_p0_past_ring_1_messages c_p0_past_ring_1_states c_p0_past_ring_1_positions c_p0_past_ring_1_goals c_p0_past_ring_1_moveCounts c_p0_past_ring_1_detourCounts v_p0_past_ring_2_dimension v_p0_past_ring_2_alive v_p0_past_ring_2_steps v_p0_past_ring_2_messages c_p0_past_ring_2_states c_p0_past_ring_2_positions c_p0_past_ring_2_goals c_p0_past_ring_2_moveCounts c_p0_past_ring_2_detourCounts v_p0_past_ring_3_dimension v_p0_past_ring_3_alive v_p0_past_ring_3_steps v_p0_past_ring_3_messages c_p0_past_ring_3_states c_p0_past_ring_3_positions c_p0_past_ring_3_goals c_p0_past_ring_3_moveCounts c_p0_past_ring_3_detourCounts v_p0_safety_dimension v_p0_safety_changingRounds c_p0_safety_levels c_p0_safety_levelsBefore c_p0_safety_vectorSets) (fun E => if E = "java/lang/IllegalArgumentException" then some ((-1000), v_p0_now_alive, v_p0_past_next, v_p0_past_size, v_p0_past_ring_0_dimension, v_p0_past_ring_0_alive, v_p0_past_ring_0_steps, v_p0_past_ring_0_messages, c_p0_past_ring_0_states, c_p0_past_ring_0_positions, c_p0_past_ring_0_goals, c_p0_past_ring_0_moveCounts, c_p0_past_ring_0_detourCounts, v_p0_past_ring_1_dimension, v_p0_past_ring_1_alive, v_p0_past_ring_1_steps, v_p0_past_ring_1_messages, c_p0_past_ring_1_states, c_p0_past_ring_1_positions, c_p0_past_ring_1_goals, c_p0_past_ring_1_moveCounts, c_p0_past_ring_1_detourCounts, v_p0_past_ring_2_dimension, v_p0_past_ring_2_alive, v_p0_past_ring_2_steps, v_p0_past_ring_2_messages, c_p0_past_ring_2_states, c_p0_past_ring_2_positions, c_p0_past_ring_2_goals, c_p0_past_ring_2_moveCounts, c_p0_past_ring_2_detourCounts, v_p0_past_ring_3_dimension, v_p0_past_ring_3_alive, v_p0_past_ring_3_steps, v_p0_past_ring_3_messages, c_p0_past_ring_3_states, c_p0_past_ring_3_positions, c_p0_past_ring_3_goals, c_p0_past_ring_3_moveCounts, c_p0_past_ring_3_detourCounts, v_p0_safety_dimension, v_p0_safety_changingRounds, c_p0_safety_levels, c_p0_safety_levelsBefore, c_p0_safety_vectorSets) else if E = "java/lang/IllegalStateException" then some ((-2000), v_p0_now_alive, v_p0_past_next, v_p0_past_size, v_p0_past_ring_0_dimension, v_p0_past_ring_0_alive, v_p0_past_ring_0_steps, v_p0_past_ring_0_messages, c_p0_past_ring_0_states, c_p0_past_ring_0_positions, c_p0_past_ring_0_goals, c_p0_past_ring_0_moveCounts, c_p0_past_ring_0_detourCounts, v_p0_past_ring_1_dimension, v_p0_past_ring_1_alive, v_p0_past_ring_1_steps, v_p0_past_ring_1_messages, c_p0_past_ring_1_states, c_p0_past_ring_1_positions, c_p0_past_ring_1_goals, c_p0_past_ring_1_moveCounts, c_p0_past_ring_1_detourCounts, v_p0_past_ring_2_dimension, v_p0_past_ring_2_alive, v_p0_past_ring_2_steps, v_p0_past_ring_2_messages, c_p0_past_ring_2_states, c_p0_past_ring_2_positions, c_p0_past_ring_2_goals, c_p0_past_ring_2_moveCounts, c_p0_past_ring_2_detourCounts, v_p0_past_ring_3_dimension, v_p0_past_ring_3_alive, v_p0_past_ring_3_steps, v_p0_past_ring_3_messages, c_p0_past_ring_3_states, c_p0_past_ring_3_positions, c_p0_past_ring_3_goals, c_p0_past_ring_3_moveCounts, c_p0_past_ring_3_detourCounts, v_p0_safety_dimension, v_p0_safety_changingRounds, c_p0_safety_levels, c_p0_safety_levelsBefore, c_p0_safety_vectorSets) else none) (fun u1 =>
zbd (A := Int32) u1.1 (fun x2 =>
some (x2, u1.2.1, u1.2.2.1, u1.2.2.2.1, u1.2.2.2.2.1, u1.2.2.2.2.2.1, u1.2.2.2.2.2.2.1, u1.2.2.2.2.2.2.2.1, u1.2.2.2.2.2.2.2.2.1, u1.2.2.2.2.2.2.2.2.2.1, u1.2.2.2.2.2.2.2.2.2.2.1, u1.2.2.2.2.2.2.2.2.2.2.2.1, u1.2.2.2.2.2.2.2.2.2.2.2.2.1, u1.2.2.2.2.2.2.2.2.2.2.2.2.2.1, u1.2.2.2.2.2.2.2.2.2.2.2.2.2.2.1, u1.2.2.2.2.2.2.2.2.2.2.2.2.2.2.2.1, u1.2.2.2.2.2.2.2.2.2.2.2.2.2.2.2.2.1, u1.2.2.2.2.2.2.2.2.2.2.2.2.2.2.2.2.2.1, u1.2.2.2.2.2.2.2.2.2.2.2.2.2.2.2.2.2.2.1, u1.2.2.2.2.2.2.2.2.2.2.2.2.2.2.2.2.2.2.2.1, u1.2.2.2.2.2.2.2.2.2.2.2.2.2.2.2.2.2.2.2.2.1, u1.2.2.2.2.2.2.2.2.2.2.2.2.2.2.2.2.2.2.2.2.2.1, u1.2.2.2.2.2.2.2.2.2.2.2.2.2.2.2.2.2.2.2.2.2.2.1, u1.2.2.2.2.2.2.2.2.2.2.2.2.2.2.2.2.2.2.2.2.2.2.2.1, u1.2.2.2.2.2.2.2.2.2.2.2.2.2.2.2.2.2.2.2.2.2.2.2.2.1, u1.2.2.2.2.2.2.2.2.2.2.2.2.2.2.2.2.2.2.2.2.2.2.2.2.2.1, u1.2.2.2.2.2.2.2.2.2.2.2.2.2.2.2.2.2.2.2.2.2.2.2.2.2.2.1, u1.2.2.2.2.2.2.2.2.2.2.2.2.2.2.2.2.2.2.2.2.2.2.2.2.2.2.2.1, u1.2.2.2.2.2.2.2.2.2.2.2.2.2.2.2.2.2.2.2.2.2.2.2.2.2.2.2.2.1, u1.2.2.2.2.2.2.2.2.2.2.2.2.2.2.2.2.2.2.2.2.2.2.2.2.2.2.2.2.2.1, u1.2.2.2.2.2.2.2.2.2.2.2.2.2.2.2.2.2.2.2.2.2.2.2.2.2.2.2.2.2.2.1, u1.2.2.2.2.2.2.2.2.2.2.2.2.2.2.2.2.2.2.2.2.2.2.2.2.2.2.2.2.2.2.2.1, u1.2.2.2.2.2.2.2.2.2.2.2.2.2.2.2.2.2.2.2.2.2.2.2.2.2.2.2.2.2.2.2.2.1, u1.2.2.2.2.2.2.2.2.2.2.2.2.2.2.2.2.2.2.2.2.2.2.2.2.2.2.2.2.2.2.2.2.2.1, u1.2.2.2.2.2.2.2.2.2.2.2.2.2.2.2.2.2.2.2.2.2.2.2.2.2.2.2.2.2.2.2.2.2.2.1, u1.2.2.2.2.2.2.2.2.2.2.2.2.2.2.2.2.2.2.2.2.2.2.2.2.2.2.2.2.2.2.2.2.2.2.2.1, u1.2.2.2.2.2.2.2.2.2.2.2.2.2.2.2.2.2.2.2.2.2.2.2.2.2.2.2.2.2.2.2.2.2.2.2.2.1, u1.2.2.2.2.2.2.2.2.2.2.2.2.2.2.2.2.2.2.2.2.2.2.2.2.2.2.2.2.2.2.2.2.2.2.2.2.2.1, u1.2.2.2.2.2.2.2.2.2.2.2.2.2.2.2.2.2.2.2.2.2.2.2.2.2.2.2.2.2.2.2.2.2.2.2.2.2.2.1, u1.2.2.2.2.2.2.2.2.2.2.2.2.2.2.2.2.2.2.2.2.2.2.2.2.2.2.2.2.2.2.2.2.2.2.2.2.2.2.2.1, u1.2.2.2.2.2.2.2.2.2.2.2.2.2.2.2.2.2.2.2.2.2.2.2.2.2.2.2.2.2.2.2.2.2.2.2.2.2.2.2.2.1, u1.2.2.2.2.2.2.2.2.2.2.2.2.2.2.2.2.2.2.2.2.2.2.2.2.2.2.2.2.2.2.2.2.2.2.2.2.2.2.2.2.2.1, u1.2.2.2.2.2.2.2.2.2.2.2.2.2.2.2.2.2.2.2.2.2.2.2.2.2.2.2.2.2.2.2.2.2.2.2.2.2.2.2.2.2.2.1, u1.2.2.2.2.2.2.2.2.2.2.2.2.2.2.2.2.2.2.2.2.2.2.2.2.2.2.2.2.2.2.2.2.2.2.2.2.2.2.2.2.2.2.2.1, u1.2.2.2.2.2.2.2.2.2.2.2.2.2.2.2.2.2.2.2.2.2.2.2.2.2.2.2.2.2.2.2.2.2.2.2.2.2.2.2.2.2.2.2.2)))
abbrev rt_L_isAlive : Type := (Int32)
def f_L_isAlive (a1 : Int32) (v_p0_now_dimension : Int32) (v_p0_now_alive : Int64) : Option rt_L_isAlive :=
zcx (f_X6_isAlive a1 v_p0_now_dimension v_p0_now_alive) (fun E => if E = "java/lang/IllegalArgumentException" then some (-1000) else none) (fun u1 =>
zjp (T := Int32 → Option rt_L_isAlive) (fun (s0_13 : Int32) =>
some s0_13) (fun K13 =>
if (u1 : Int32) = 0 then (
K13 0) else (
K13 1)))
abbrev rt_L_distance : Type := (Int32)
def f_L_distance (a1 : Int32) (a2 : Int32) (v_p0_now_dimension : Int32) : Option rt_L_distance :=
zcx (f_X6_distance a1 a2 v_p0_now_dimension) (fun E => if E = "java/lang/IllegalArgumentException" then some (-1000) else none) (fun u1 =>
some u1)
abbrev rt_L_shortest : Type := (Int32)
def f_L_shortest (a1 : Int32) (a2 : Int32) (v_p0_now_dimension : Int32) (v_p0_now_alive : Int64) : Option rt_L_shortest :=
zcx (f_X6_shortest a1 a2 v_p0_now_dimension v_p0_now_alive) (fun E => if E = "java/lang/IllegalArgumentException" then some (-1000) else if E = "java/lang/IllegalStateException" then some (-2000) else none) (fun u1 =>
some u1)
abbrev rt_L_level : Type := (Int32)
def f_L_level (a1 : Int32) (v_p0_now_dimension : Int32) (c_p0_safety_levels : (Nat → Int32)) : Option rt_L_level :=
zcx (f_X6_level a1 v_p0_now_dimension c_p0_safety_levels) (fun E => if E = "java/lang/IllegalArgumentException" then some (-1000) else none) (fun u1 =>
some u1)
abbrev rt_L_vectorBit : Type := (Int32)
def f_L_vectorBit (a1 : Int32) (a2 : Int32) (v_p0_now_dimension : Int32) (c_p0_safety_vectorSets : (Nat → Int64)) : Option rt_L_vectorBit :=
zcx (f_X6_vectorBit a1 a2 v_p0_now_dimension c_p0_safety_vectorSets) (fun E => if E = "java/lang/IllegalArgumentException" then some (-1000) else none) (fun u1 =>
some u1)
abbrev rt_L_decide : Type := (Int32)
def f_L_decide (a1 : Int32) (a2 : Int32) (v_p0_now_dimension : Int32) (v_p0_now_alive : Int64) (v_p0_safety_dimension : Int32) (c_p0_safety_levels : (Nat → Int32)) : Option rt_L_decide :=
zcx (f_X6_decide a1 a2 v_p0_now_dimension v_p0_now_alive v_p0_safety_dimension c_p0_safety_levels) (fun E => if E = "java/lang/IllegalArgumentException" then some (-1000) else if E = "java/lang/IllegalStateException" then some (-2000) else none) (fun u1 =>
some u1)
abbrev rt_L_routeLength : Type := (Int32)
def f_L_routeLength (a1 : Int32) (a2 : Int32) (v_p0_now_dimension : Int32) (v_p0_now_alive : Int64) (v_p0_safety_dimension : Int32) (c_p0_safety_levels : (Nat → Int32)) : Option rt_L_routeLength :=
zcx (f_X6_routeLength a1 a2 v_p0_now_dimension v_p0_now_alive v_p0_safety_dimension c_p0_safety_levels) (fun E => if E = "java/lang/IllegalArgumentException" then some (-1000) else if E = "java/lang/IllegalStateException" then some (-2000) else none) (fun u1 =>
some u1)
abbrev rt_L_routeNode : Type := (Int32)
def f_L_routeNode (a1 : Int32) (a2 : Int32) (a3 : Int32) (v_p0_now_dimension : Int32) (v_p0_now_alive : Int64) (v_p0_safety_dimension : Int32) (c_p0_safety_levels : (Nat → Int32)) : Option rt_L_routeNode :=
zcx (f_X6_routeNode a1 a2 a3 v_p0_now_dimension v_p0_now_alive v_p0_safety_dimension c_p0_safety_levels) (fun E => if E = "java/lang/IllegalArgumentException" then some (-1000) else if E = "java/lang/IllegalStateException" then some (-2000) else none) (fun u1 =>
some u1)
abbrev rt_L_reach : Type := (Int32)
def f_L_reach (a1 : Int32) (a2 : Int32) (v_p0_now_dimension : Int32) (v_p0_now_alive : Int64) (v_p0_safety_dimension : Int32) (c_p0_safety_levels : (Nat → Int32)) : Option rt_L_reach :=
zcx (f_X6_reach a1 a2 v_p0_now_dimension v_p0_now_alive v_p0_safety_dimension c_p0_safety_levels) (fun E => if E = "java/lang/IllegalArgumentException" then some (-1000) else if E = "java/lang/IllegalStateException" then some (-2000) else none) (fun u1 =>
some u1)
abbrev rt_L_broadcastTime : Type := (Int32 × Int32 × (Nat → Int32) × (Nat → Int32) × (Nat → Int32))
def f_L_broadcastTime (a1 : Int32) (a2 : Int32) (v_p0_now_dimension : Int32) (v_p0_now_alive : Int64) (v_p0_safety_dimension : Int32) (c_p0_safety_levels : (Nat → Int32)) (v_p0_broadcast_receivers : Int32) (c_p0_broadcast_times : (Nat → Int32)) (c_p0_broadcast_lists : (Nat → Int32)) (c_p0_broadcast_queue : (Nat → Int32)) : Option rt_L_broadcastTime :=
zcx (f_X6_broadcastTime a1 a2 v_p0_now_dimension v_p0_now_alive v_p0_safety_dimension c_p0_safety_levels v_p0_broadcast_receivers c_p0_broadcast_times c_p0_broadcast_lists c_p0_broadcast_queue) (fun E => if E = "java/lang/IllegalArgumentException" then some ((-1000), v_p0_broadcast_receivers, c_p0_broadcast_times, c_p0_broadcast_lists, c_p0_broadcast_queue) else if E = "java/lang/IllegalStateException" then some ((-2000), v_p0_broadcast_receivers, c_p0_broadcast_times, c_p0_broadcast_lists, c_p0_broadcast_queue) else none) (fun u1 =>
zbd (A := Int32) u1.1 (fun x2 =>
some (x2, u1.2.1, u1.2.2.1, u1.2.2.2.1, u1.2.2.2.2)))
abbrev rt_L_broadcastSize : Type := (Int32 × Int32 × (Nat → Int32) × (Nat → Int32) × (Nat → Int32))
def f_L_broadcastSize (a1 : Int32) (v_p0_now_dimension : Int32) (v_p0_now_alive : Int64) (v_p0_safety_dimension : Int32) (c_p0_safety_levels : (Nat → Int32)) (v_p0_broadcast_receivers : Int32) (c_p0_broadcast_times : (Nat → Int32)) (c_p0_broadcast_lists : (Nat → Int32)) (c_p0_broadcast_queue : (Nat → Int32)) : Option rt_L_broadcastSize :=
zcx (f_X6_broadcastSize a1 v_p0_now_dimension v_p0_now_alive v_p0_safety_dimension c_p0_safety_levels v_p0_broadcast_receivers c_p0_broadcast_times c_p0_broadcast_lists c_p0_broadcast_queue) (fun E => if E = "java/lang/IllegalArgumentException" then some ((-1000), v_p0_broadcast_receivers, c_p0_broadcast_times, c_p0_broadcast_lists, c_p0_broadcast_queue) else if E = "java/lang/IllegalStateException" then some ((-2000), v_p0_broadcast_receivers, c_p0_broadcast_times, c_p0_broadcast_lists, c_p0_broadcast_queue) else none) (fun u1 =>
zbd (A := Int32) u1.1 (fun x2 =>
some (x2, u1.2.1, u1.2.2.1, u1.2.2.2.1, u1.2.2.2.2)))
abbrev rt_L_freeSubcubes : Type := (Int32)
def f_L_freeSubcubes (a1 : Int32) (v_p0_now_dimension : Int32) (v_p0_now_alive : Int64) : Option rt_L_freeSubcubes :=
zcx (f_X6_freeSubcubes a1 v_p0_now_dimension v_p0_now_alive) (fun E => if E = "java/lang/IllegalArgumentException" then some (-1000) else none) (fun u1 =>
some u1)
abbrev rt_L_disjointPaths : Type := (Int32 × Int32 × Int32 × Int32 × Int32 × Int64 × (Nat → Int32) × (Nat → Int32) × (Nat → Int32))
def f_L_disjointPaths (a1 : Int32) (a2 : Int32) (v_p0_now_dimension : Int32) (v_p0_now_alive : Int64) (v_p0_packing_found : Int32) (v_p0_packing_source : Int32) (v_p0_packing_goal : Int32) (v_p0_packing_dimension : Int32) (v_p0_packing_alive : Int64) (c_p0_packing_leaving : (Nat → Int32)) (c_p0_packing_cameFrom : (Nat → Int32)) (c_p0_packing_queue : (Nat → Int32)) : Option rt_L_disjointPaths :=
zcx (f_X6_disjointPaths a1 a2 v_p0_now_dimension v_p0_now_alive v_p0_packing_found v_p0_packing_source v_p0_packing_goal v_p0_packing_dimension v_p0_packing_alive c_p0_packing_leaving c_p0_packing_cameFrom c_p0_packing_queue) (fun E => if E = "java/lang/IllegalArgumentException" then some ((-1000), v_p0_packing_found, v_p0_packing_source, v_p0_packing_goal, v_p0_packing_dimension, v_p0_packing_alive, c_p0_packing_leaving, c_p0_packing_cameFrom, c_p0_packing_queue) else if E = "java/lang/IllegalStateException" then some ((-2000), v_p0_packing_found, v_p0_packing_source, v_p0_packing_goal, v_p0_packing_dimension, v_p0_packing_alive, c_p0_packing_leaving, c_p0_packing_cameFrom, c_p0_packing_queue) else none) (fun u1 =>
zbd (A := Int32) u1.1 (fun x2 =>
some (x2, u1.2.1, u1.2.2.1, u1.2.2.2.1, u1.2.2.2.2.1, u1.2.2.2.2.2.1, u1.2.2.2.2.2.2.1, u1.2.2.2.2.2.2.2.1, u1.2.2.2.2.2.2.2.2)))
abbrev rt_L_send : Type := (Int32 × Int32 × (Nat → Int32) × (Nat → Int32) × (Nat → Int32) × (Nat → Int32) × (Nat → Int32) × Int32 × Int32 × Int32 × Int64 × Int32 × Int32 × (Nat → Int32) × (Nat → Int32) × (Nat → Int32) × (Nat → Int32) × (Nat → Int32) × Int32 × Int64 × Int32 × Int32 × (Nat → Int32) × (Nat → Int32) × (Nat → Int32) × (Nat → Int32) × (Nat → Int32) × Int32 × Int64 × Int32 × Int32 × (Nat → Int32) × (Nat → Int32) × (Nat → Int32) × (Nat → Int32) × (Nat → Int32) × Int32 × Int64 × Int32 × Int32 × (Nat → Int32) × (Nat → Int32) × (Nat → Int32) × (Nat → Int32) × (Nat → Int32))
def f_L_send (a1 : Int32) (a2 : Int32) (v_p0_now_dimension : Int32) (v_p0_now_alive : Int64) (v_p0_now_steps : Int32) (v_p0_now_messages : Int32) (c_p0_now_states : (Nat → Int32)) (c_p0_now_positions : (Nat → Int32)) (c_p0_now_goals : (Nat → Int32)) (c_p0_now_moveCounts : (Nat → Int32)) (c_p0_now_detourCounts : (Nat → Int32)) (v_p0_past_next : Int32) (v_p0_past_size : Int32) (v_p0_past_ring_0_dimension : Int32) (v_p0_past_ring_0_alive : Int64) (v_p0_past_ring_0_steps : Int32) (v_p0_past_ring_0_messages : Int32) (c_p0_past_ring_0_states : (Nat → Int32)) (c_p0_past_ring_0_positions : (Nat → Int32)) (c_p0_past_ring_0_goals : (Nat → Int32)) (c_p0_past_ring_0_moveCounts : (Nat → Int32)) (c_p0_past_ring_0_detourCounts : (Nat → Int32)) (v_p0_past_ring_1_dimension : Int32) (v_p0_past_ring_1_alive : Int64) (v_p0_past_ring_1_steps : Int32) (v_p0_past_ring_1_messages : Int32) (c_p0_past_ring_1_states : (Nat → Int32)) (c_p0_past_ring_1_positions : (Nat → Int32)) (c_p0_past_ring_1_goals : (Nat → Int32)) (c_p0_past_ring_1_moveCounts : (Nat → Int32)) (c_p0_past_ring_1_detourCounts : (Nat → Int32)) (v_p0_past_ring_2_dimension : Int32) (v_p0_past_ring_2_alive : Int64) (v_p0_past_ring_2_steps : Int32) (v_p0_past_ring_2_messages : Int32) (c_p0_past_ring_2_states : (Nat → Int32)) (c_p0_past_ring_2_positions : (Nat → Int32)) (c_p0_past_ring_2_goals : (Nat → Int32)) (c_p0_past_ring_2_moveCounts : (Nat → Int32)) (c_p0_past_ring_2_detourCounts : (Nat → Int32)) (v_p0_past_ring_3_dimension : Int32) (v_p0_past_ring_3_alive : Int64) (v_p0_past_ring_3_steps : Int32) (v_p0_past_ring_3_messages : Int32) (c_p0_past_ring_3_states : (Nat → Int32)) (c_p0_past_ring_3_positions : (Nat → Int32)) (c_p0_past_ring_3_goals : (Nat → Int32)) (c_p0_past_ring_3_moveCounts : (Nat → Int32)) (c_p0_past_ring_3_detourCounts : (Nat → Int32)) : Option rt_L_send :=
zcx (f_X6_send a1 a2 v_p0_now_dimension v_p0_now_alive v_p0_now_steps v_p0_now_messages c_p0_now_states c_p0_now_positions c_p0_now_goals c_p0_now_moveCounts c_p0_now_detourCounts v_p0_past_next v_p0_past_size v_p0_past_ring_0_dimension v_p0_past_ring_0_alive v_p0_past_ring_0_steps v_p0_past_ring_0_messages c_p0_past_ring_0_states c_p0_past_ring_0_positions c_p0_past_ring_0_goals c_p0_past_ring_0_moveCounts c_p0_past_ring_0_detourCounts v_p0_past_ring_1_dimension v_p0_past_ring_1_alive v_p0_past_ring_1_steps v_p0_past_ring_1_messages c_p0_past_ring_1_states c_p0_past_ring_1_positions c_p0_past_ring_1_goals c_p0_past_ring_1_moveCounts c_p0_past_ring_1_detourCounts v_p0_past_ring_2_dimension v_p0_past_ring_2_alive v_p0_past_ring_2_steps v_p0_past_ring_2_messages c_p0_past_ring_2_states c_p0_past_ring_2_positions c_p0_past_ring_2_goals c_p0_past_ring_2_moveCounts c_p0_past_ring_2_detourCounts v_p0_past_ring_3_dimension v_p0_past_ring_3_alive v_p0_past_ring_3_steps v_p0_past_ring_3_messages c_p0_past_ring_3_states c_p0_past_ring_3_positions c_p0_past_ring_3_goals c_p0_past_ring_3_moveCounts c_p0_past_ring_3_detourCounts) (fun E => if E = "java/lang/IllegalArgumentException" then some ((-1000), v_p0_now_messages, c_p0_now_states, c_p0_now_positions, c_p0_now_goals, c_p0_now_moveCounts, c_p0_now_detourCounts, v_p0_past_next, v_p0_past_size, v_p0_past_ring_0_dimension, v_p0_past_ring_0_alive, v_p0_past_ring_0_steps, v_p0_past_ring_0_messages, c_p0_past_ring_0_states, c_p0_past_ring_0_positions, c_p0_past_ring_0_goals, c_p0_past_ring_0_moveCounts, c_p0_past_ring_0_detourCounts, v_p0_past_ring_1_dimension, v_p0_past_ring_1_alive, v_p0_past_ring_1_steps, v_p0_past_ring_1_messages, c_p0_past_ring_1_states, c_p0_past_ring_1_positions, c_p0_past_ring_1_goals, c_p0_past_ring_1_moveCounts, c_p0_past_ring_1_detourCounts, v_p0_past_ring_2_dimension, v_p0_past_ring_2_alive, v_p0_past_ring_2_steps, v_p0_past_ring_2_messages, c_p0_past_ring_2_states, c_p0_past_ring_2_positions, c_p0_past_ring_2_goals, c_p0_past_ring_2_moveCounts, c_p0_past_ring_2_detourCounts, v_p0_past_ring_3_dimension, v_p0_past_ring_3_alive, v_p0_past_ring_3_steps, v_p0_past_ring_3_messages, c_p0_past_ring_3_states, c_p0_past_ring_3_positions, c_p0_past_ring_3_goals, c_p0_past_ring_3_moveCounts, c_p0_past_ring_3_detourCounts) else if E = "java/lang/IllegalStateException" then some ((-2000), v_p0_now_messages, c_p0_now_states, c_p0_now_positions, c_p0_now_goals, c_p0_now_moveCounts, c_p0_now_detourCounts, v_p0_past_next, v_p0_past_size, v_p0_past_ring_0_dimension, v_p0_past_ring_0_alive, v_p0_past_ring_0_steps, v_p0_past_ring_0_messages, c_p0_past_ring_0_states, c_p0_past_ring_0_positions, c_p0_past_ring_0_goals, c_p0_past_ring_0_moveCounts, c_p0_past_ring_0_detourCounts, v_p0_past_ring_1_dimension, v_p0_past_ring_1_alive, v_p0_past_ring_1_steps, v_p0_past_ring_1_messages, c_p0_past_ring_1_states, c_p0_past_ring_1_positions, c_p0_past_ring_1_goals, c_p0_past_ring_1_moveCounts, c_p0_past_ring_1_detourCounts, v_p0_past_ring_2_dimension, v_p0_past_ring_2_alive, v_p0_past_ring_2_steps, v_p0_past_ring_2_messages, c_p0_past_ring_2_states, c_p0_past_ring_2_positions, c_p0_past_ring_2_goals, c_p0_past_ring_2_moveCounts, c_p0_past_ring_2_detourCounts, v_p0_past_ring_3_dimension, v_p0_past_ring_3_alive, v_p0_past_ring_3_steps, v_p0_past_ring_3_messages, c_p0_past_ring_3_states, c_p0_past_ring_3_positions, c_p0_past_ring_3_goals, c_p0_past_ring_3_moveCounts, c_p0_past_ring_3_detourCounts) else none) (fun u1 =>
zbd (A := Int32) u1.1 (fun x2 =>
some (x2, u1.2.1, u1.2.2.1, u1.2.2.2.1, u1.2.2.2.2.1, u1.2.2.2.2.2.1, u1.2.2.2.2.2.2.1, u1.2.2.2.2.2.2.2.1, u1.2.2.2.2.2.2.2.2.1, u1.2.2.2.2.2.2.2.2.2.1, u1.2.2.2.2.2.2.2.2.2.2.1, u1.2.2.2.2.2.2.2.2.2.2.2.1, u1.2.2.2.2.2.2.2.2.2.2.2.2.1, u1.2.2.2.2.2.2.2.2.2.2.2.2.2.1, u1.2.2.2.2.2.2.2.2.2.2.2.2.2.2.1, u1.2.2.2.2.2.2.2.2.2.2.2.2.2.2.2.1, u1.2.2.2.2.2.2.2.2.2.2.2.2.2.2.2.2.1, u1.2.2.2.2.2.2.2.2.2.2.2.2.2.2.2.2.2.1, u1.2.2.2.2.2.2.2.2.2.2.2.2.2.2.2.2.2.2.1, u1.2.2.2.2.2.2.2.2.2.2.2.2.2.2.2.2.2.2.2.1, u1.2.2.2.2.2.2.2.2.2.2.2.2.2.2.2.2.2.2.2.2.1, u1.2.2.2.2.2.2.2.2.2.2.2.2.2.2.2.2.2.2.2.2.2.1, u1.2.2.2.2.2.2.2.2.2.2.2.2.2.2.2.2.2.2.2.2.2.2.1, u1.2.2.2.2.2.2.2.2.2.2.2.2.2.2.2.2.2.2.2.2.2.2.2.1, u1.2.2.2.2.2.2.2.2.2.2.2.2.2.2.2.2.2.2.2.2.2.2.2.2.1, u1.2.2.2.2.2.2.2.2.2.2.2.2.2.2.2.2.2.2.2.2.2.2.2.2.2.1, u1.2.2.2.2.2.2.2.2.2.2.2.2.2.2.2.2.2.2.2.2.2.2.2.2.2.2.1, u1.2.2.2.2.2.2.2.2.2.2.2.2.2.2.2.2.2.2.2.2.2.2.2.2.2.2.2.1, u1.2.2.2.2.2.2.2.2.2.2.2.2.2.2.2.2.2.2.2.2.2.2.2.2.2.2.2.2.1, u1.2.2.2.2.2.2.2.2.2.2.2.2.2.2.2.2.2.2.2.2.2.2.2.2.2.2.2.2.2.1, u1.2.2.2.2.2.2.2.2.2.2.2.2.2.2.2.2.2.2.2.2.2.2.2.2.2.2.2.2.2.2.1, u1.2.2.2.2.2.2.2.2.2.2.2.2.2.2.2.2.2.2.2.2.2.2.2.2.2.2.2.2.2.2.2.1, u1.2.2.2.2.2.2.2.2.2.2.2.2.2.2.2.2.2.2.2.2.2.2.2.2.2.2.2.2.2.2.2.2.1, u1.2.2.2.2.2.2.2.2.2.2.2.2.2.2.2.2.2.2.2.2.2.2.2.2.2.2.2.2.2.2.2.2.2.1, u1.2.2.2.2.2.2.2.2.2.2.2.2.2.2.2.2.2.2.2.2.2.2.2.2.2.2.2.2.2.2.2.2.2.2.1, u1.2.2.2.2.2.2.2.2.2.2.2.2.2.2.2.2.2.2.2.2.2.2.2.2.2.2.2.2.2.2.2.2.2.2.2.1, u1.2.2.2.2.2.2.2.2.2.2.2.2.2.2.2.2.2.2.2.2.2.2.2.2.2.2.2.2.2.2.2.2.2.2.2.2.1, u1.2.2.2.2.2.2.2.2.2.2.2.2.2.2.2.2.2.2.2.2.2.2.2.2.2.2.2.2.2.2.2.2.2.2.2.2.2.1, u1.2.2.2.2.2.2.2.2.2.2.2.2.2.2.2.2.2.2.2.2.2.2.2.2.2.2.2.2.2.2.2.2.2.2.2.2.2.2.1, u1.2.2.2.2.2.2.2.2.2.2.2.2.2.2.2.2.2.2.2.2.2.2.2.2.2.2.2.2.2.2.2.2.2.2.2.2.2.2.2.1, u1.2.2.2.2.2.2.2.2.2.2.2.2.2.2.2.2.2.2.2.2.2.2.2.2.2.2.2.2.2.2.2.2.2.2.2.2.2.2.2.2.1, u1.2.2.2.2.2.2.2.2.2.2.2.2.2.2.2.2.2.2.2.2.2.2.2.2.2.2.2.2.2.2.2.2.2.2.2.2.2.2.2.2.2.1, u1.2.2.2.2.2.2.2.2.2.2.2.2.2.2.2.2.2.2.2.2.2.2.2.2.2.2.2.2.2.2.2.2.2.2.2.2.2.2.2.2.2.2.1, u1.2.2.2.2.2.2.2.2.2.2.2.2.2.2.2.2.2.2.2.2.2.2.2.2.2.2.2.2.2.2.2.2.2.2.2.2.2.2.2.2.2.2.2.1, u1.2.2.2.2.2.2.2.2.2.2.2.2.2.2.2.2.2.2.2.2.2.2.2.2.2.2.2.2.2.2.2.2.2.2.2.2.2.2.2.2.2.2.2.2)))
abbrev rt_L_step : Type := (Int32 × Int32 × (Nat → Int32) × (Nat → Int32) × (Nat → Int32) × (Nat → Int32) × Int32 × Int32 × Int32 × Int64 × Int32 × Int32 × (Nat → Int32) × (Nat → Int32) × (Nat → Int32) × (Nat → Int32) × (Nat → Int32) × Int32 × Int64 × Int32 × Int32 × (Nat → Int32) × (Nat → Int32) × (Nat → Int32) × (Nat → Int32) × (Nat → Int32) × Int32 × Int64 × Int32 × Int32 × (Nat → Int32) × (Nat → Int32) × (Nat → Int32) × (Nat → Int32) × (Nat → Int32) × Int32 × Int64 × Int32 × Int32 × (Nat → Int32) × (Nat → Int32) × (Nat → Int32) × (Nat → Int32) × (Nat → Int32) × (Nat → Int32))
def f_L_step (a1 : Int32) (v_p0_now_dimension : Int32) (v_p0_now_alive : Int64) (v_p0_now_steps : Int32) (v_p0_now_messages : Int32) (c_p0_now_states : (Nat → Int32)) (c_p0_now_positions : (Nat → Int32)) (c_p0_now_goals : (Nat → Int32)) (c_p0_now_moveCounts : (Nat → Int32)) (c_p0_now_detourCounts : (Nat → Int32)) (v_p0_past_next : Int32) (v_p0_past_size : Int32) (v_p0_past_ring_0_dimension : Int32) (v_p0_past_ring_0_alive : Int64) (v_p0_past_ring_0_steps : Int32) (v_p0_past_ring_0_messages : Int32) (c_p0_past_ring_0_states : (Nat → Int32)) (c_p0_past_ring_0_positions : (Nat → Int32)) (c_p0_past_ring_0_goals : (Nat → Int32)) (c_p0_past_ring_0_moveCounts : (Nat → Int32)) (c_p0_past_ring_0_detourCounts : (Nat → Int32)) (v_p0_past_ring_1_dimension : Int32) (v_p0_past_ring_1_alive : Int64) (v_p0_past_ring_1_steps : Int32) (v_p0_past_ring_1_messages : Int32) (c_p0_past_ring_1_states : (Nat → Int32)) (c_p0_past_ring_1_positions : (Nat → Int32)) (c_p0_past_ring_1_goals : (Nat → Int32)) (c_p0_past_ring_1_moveCounts : (Nat → Int32)) (c_p0_past_ring_1_detourCounts : (Nat → Int32)) (v_p0_past_ring_2_dimension : Int32) (v_p0_past_ring_2_alive : Int64) (v_p0_past_ring_2_steps : Int32) (v_p0_past_ring_2_messages : Int32) (c_p0_past_ring_2_states : (Nat → Int32)) (c_p0_past_ring_2_positions : (Nat → Int32)) (c_p0_past_ring_2_goals : (Nat → Int32)) (c_p0_past_ring_2_moveCounts : (Nat → Int32)) (c_p0_past_ring_2_detourCounts : (Nat → Int32)) (v_p0_past_ring_3_dimension : Int32) (v_p0_past_ring_3_alive : Int64) (v_p0_past_ring_3_steps : Int32) (v_p0_past_ring_3_messages : Int32) (c_p0_past_ring_3_states : (Nat → Int32)) (c_p0_past_ring_3_positions : (Nat → Int32)) (c_p0_past_ring_3_goals : (Nat → Int32)) (c_p0_past_ring_3_moveCounts : (Nat → Int32)) (c_p0_past_ring_3_detourCounts : (Nat → Int32)) (v_p0_safety_dimension : Int32) (c_p0_safety_levels : (Nat → Int32)) (c_p0_traffic_usedWays : (Nat → Int32)) : Option rt_L_step :=
zcx (f_X6_step a1 v_p0_now_dimension v_p0_now_alive v_p0_now_steps v_p0_now_messages c_p0_now_states c_p0_now_positions c_p0_now_goals c_p0_now_moveCounts c_p0_now_detourCounts v_p0_past_next v_p0_past_size v_p0_past_ring_0_dimension v_p0_past_ring_0_alive v_p0_past_ring_0_steps v_p0_past_ring_0_messages c_p0_past_ring_0_states c_p0_past_ring_0_positions c_p0_past_ring_0_goals c_p0_past_ring_0_moveCounts c_p0_past_ring_0_detourCounts v_p0_past_ring_1_dimension v_p0_past_ring_1_alive v_p0_past_ring_1_steps v_p0_past_ring_1_messages c_p0_past_ring_1_states c_p0_past_ring_1_positions c_p0_past_ring_1_goals c_p0_past_ring_1_moveCounts c_p0_past_ring_1_detourCounts v_p0_past_ring_2_dimension v_p0_past_ring_2_alive v_p0_past_ring_2_steps v_p0_past_ring_2_messages c_p0_past_ring_2_states c_p0_past_ring_2_positions c_p0_past_ring_2_goals c_p0_past_ring_2_moveCounts c_p0_past_ring_2_detourCounts v_p0_past_ring_3_dimension v_p0_past_ring_3_alive v_p0_past_ring_3_steps v_p0_past_ring_3_messages c_p0_past_ring_3_states c_p0_past_ring_3_positions c_p0_past_ring_3_goals c_p0_past_ring_3_moveCounts c_p0_past_ring_3_detourCounts v_p0_safety_dimension c_p0_safety_levels c_p0_traffic_usedWays) (fun E => if E = "java/lang/IllegalArgumentException" then some ((-1000), v_p0_now_steps, c_p0_now_states, c_p0_now_positions, c_p0_now_moveCounts, c_p0_now_detourCounts, v_p0_past_next, v_p0_past_size, v_p0_past_ring_0_dimension, v_p0_past_ring_0_alive, v_p0_past_ring_0_steps, v_p0_past_ring_0_messages, c_p0_past_ring_0_states, c_p0_past_ring_0_positions, c_p0_past_ring_0_goals, c_p0_past_ring_0_moveCounts, c_p0_past_ring_0_detourCounts, v_p0_past_ring_1_dimension, v_p0_past_ring_1_alive, v_p0_past_ring_1_steps, v_p0_past_ring_1_messages, c_p0_past_ring_1_states, c_p0_past_ring_1_positions, c_p0_past_ring_1_goals, c_p0_past_ring_1_moveCounts, c_p0_past_ring_1_detourCounts, v_p0_past_ring_2_dimension, v_p0_past_ring_2_alive, v_p0_past_ring_2_steps, v_p0_past_ring_2_messages, c_p0_past_ring_2_states, c_p0_past_ring_2_positions, c_p0_past_ring_2_goals, c_p0_past_ring_2_moveCounts, c_p0_past_ring_2_detourCounts, v_p0_past_ring_3_dimension, v_p0_past_ring_3_alive, v_p0_past_ring_3_steps, v_p0_past_ring_3_messages, c_p0_past_ring_3_states, c_p0_past_ring_3_positions, c_p0_past_ring_3_goals, c_p0_past_ring_3_moveCounts, c_p0_past_ring_3_detourCounts, c_p0_traffic_usedWays) else none) (fun u1 =>
zbd (A := Int32) u1.1 (fun x2 =>
some (x2, u1.2.1, u1.2.2.1, u1.2.2.2.1, u1.2.2.2.2.1, u1.2.2.2.2.2.1, u1.2.2.2.2.2.2.1, u1.2.2.2.2.2.2.2.1, u1.2.2.2.2.2.2.2.2.1, u1.2.2.2.2.2.2.2.2.2.1, u1.2.2.2.2.2.2.2.2.2.2.1, u1.2.2.2.2.2.2.2.2.2.2.2.1, u1.2.2.2.2.2.2.2.2.2.2.2.2.1, u1.2.2.2.2.2.2.2.2.2.2.2.2.2.1, u1.2.2.2.2.2.2.2.2.2.2.2.2.2.2.1, u1.2.2.2.2.2.2.2.2.2.2.2.2.2.2.2.1, u1.2.2.2.2.2.2.2.2.2.2.2.2.2.2.2.2.1, u1.2.2.2.2.2.2.2.2.2.2.2.2.2.2.2.2.2.1, u1.2.2.2.2.2.2.2.2.2.2.2.2.2.2.2.2.2.2.1, u1.2.2.2.2.2.2.2.2.2.2.2.2.2.2.2.2.2.2.2.1, u1.2.2.2.2.2.2.2.2.2.2.2.2.2.2.2.2.2.2.2.2.1, u1.2.2.2.2.2.2.2.2.2.2.2.2.2.2.2.2.2.2.2.2.2.1, u1.2.2.2.2.2.2.2.2.2.2.2.2.2.2.2.2.2.2.2.2.2.2.1, u1.2.2.2.2.2.2.2.2.2.2.2.2.2.2.2.2.2.2.2.2.2.2.2.1, u1.2.2.2.2.2.2.2.2.2.2.2.2.2.2.2.2.2.2.2.2.2.2.2.2.1, u1.2.2.2.2.2.2.2.2.2.2.2.2.2.2.2.2.2.2.2.2.2.2.2.2.2.1, u1.2.2.2.2.2.2.2.2.2.2.2.2.2.2.2.2.2.2.2.2.2.2.2.2.2.2.1, u1.2.2.2.2.2.2.2.2.2.2.2.2.2.2.2.2.2.2.2.2.2.2.2.2.2.2.2.1, u1.2.2.2.2.2.2.2.2.2.2.2.2.2.2.2.2.2.2.2.2.2.2.2.2.2.2.2.2.1, u1.2.2.2.2.2.2.2.2.2.2.2.2.2.2.2.2.2.2.2.2.2.2.2.2.2.2.2.2.2.1, u1.2.2.2.2.2.2.2.2.2.2.2.2.2.2.2.2.2.2.2.2.2.2.2.2.2.2.2.2.2.2.1, u1.2.2.2.2.2.2.2.2.2.2.2.2.2.2.2.2.2.2.2.2.2.2.2.2.2.2.2.2.2.2.2.1, u1.2.2.2.2.2.2.2.2.2.2.2.2.2.2.2.2.2.2.2.2.2.2.2.2.2.2.2.2.2.2.2.2.1, u1.2.2.2.2.2.2.2.2.2.2.2.2.2.2.2.2.2.2.2.2.2.2.2.2.2.2.2.2.2.2.2.2.2.1, u1.2.2.2.2.2.2.2.2.2.2.2.2.2.2.2.2.2.2.2.2.2.2.2.2.2.2.2.2.2.2.2.2.2.2.1, u1.2.2.2.2.2.2.2.2.2.2.2.2.2.2.2.2.2.2.2.2.2.2.2.2.2.2.2.2.2.2.2.2.2.2.2.1, u1.2.2.2.2.2.2.2.2.2.2.2.2.2.2.2.2.2.2.2.2.2.2.2.2.2.2.2.2.2.2.2.2.2.2.2.2.1, u1.2.2.2.2.2.2.2.2.2.2.2.2.2.2.2.2.2.2.2.2.2.2.2.2.2.2.2.2.2.2.2.2.2.2.2.2.2.1, u1.2.2.2.2.2.2.2.2.2.2.2.2.2.2.2.2.2.2.2.2.2.2.2.2.2.2.2.2.2.2.2.2.2.2.2.2.2.2.1, u1.2.2.2.2.2.2.2.2.2.2.2.2.2.2.2.2.2.2.2.2.2.2.2.2.2.2.2.2.2.2.2.2.2.2.2.2.2.2.2.1, u1.2.2.2.2.2.2.2.2.2.2.2.2.2.2.2.2.2.2.2.2.2.2.2.2.2.2.2.2.2.2.2.2.2.2.2.2.2.2.2.2.1, u1.2.2.2.2.2.2.2.2.2.2.2.2.2.2.2.2.2.2.2.2.2.2.2.2.2.2.2.2.2.2.2.2.2.2.2.2.2.2.2.2.2.1, u1.2.2.2.2.2.2.2.2.2.2.2.2.2.2.2.2.2.2.2.2.2.2.2.2.2.2.2.2.2.2.2.2.2.2.2.2.2.2.2.2.2.2.1, u1.2.2.2.2.2.2.2.2.2.2.2.2.2.2.2.2.2.2.2.2.2.2.2.2.2.2.2.2.2.2.2.2.2.2.2.2.2.2.2.2.2.2.2.1, u1.2.2.2.2.2.2.2.2.2.2.2.2.2.2.2.2.2.2.2.2.2.2.2.2.2.2.2.2.2.2.2.2.2.2.2.2.2.2.2.2.2.2.2.2)))
abbrev rt_L_state : Type := (Int32)
def f_L_state (a1 : Int32) (v_p0_now_messages : Int32) (c_p0_now_states : (Nat → Int32)) : Option rt_L_state :=
zcx (f_X6_state a1 v_p0_now_messages c_p0_now_states) (fun E => if E = "java/lang/IllegalArgumentException" then some (-1000) else none) (fun u1 =>
some u1)
abbrev rt_L_position : Type := (Int32)
def f_L_position (a1 : Int32) (v_p0_now_messages : Int32) (c_p0_now_positions : (Nat → Int32)) : Option rt_L_position :=
zcx (f_X6_position a1 v_p0_now_messages c_p0_now_positions) (fun E => if E = "java/lang/IllegalArgumentException" then some (-1000) else none) (fun u1 =>
some u1)
abbrev rt_L_moves : Type := (Int32)
def f_L_moves (a1 : Int32) (v_p0_now_messages : Int32) (c_p0_now_moveCounts : (Nat → Int32)) : Option rt_L_moves :=
zcx (f_X6_moves a1 v_p0_now_messages c_p0_now_moveCounts) (fun E => if E = "java/lang/IllegalArgumentException" then some (-1000) else none) (fun u1 =>
some u1)
abbrev rt_L_count : Type := (Int32)
def f_L_count (a1 : Int32) (v_p0_now_messages : Int32) (c_p0_now_states : (Nat → Int32)) : Option rt_L_count :=
zcx (f_X6_count a1 v_p0_now_messages c_p0_now_states) (fun E => if E = "java/lang/IllegalArgumentException" then some (-1000) else none) (fun u1 =>
some u1)
abbrev rt_L_undo : Type := (Int32 × Int32 × Int64 × Int32 × Int32 × (Nat → Int32) × (Nat → Int32) × (Nat → Int32) × (Nat → Int32) × (Nat → Int32) × Int32 × Int32 × Int32 × Int32 × (Nat → Int32) × (Nat → Int32) × (Nat → Int64))
def f_L_undo (v_p0_now_dimension : Int32) (v_p0_now_alive : Int64) (v_p0_now_steps : Int32) (v_p0_now_messages : Int32) (c_p0_now_states : (Nat → Int32)) (c_p0_now_positions : (Nat → Int32)) (c_p0_now_goals : (Nat → Int32)) (c_p0_now_moveCounts : (Nat → Int32)) (c_p0_now_detourCounts : (Nat → Int32)) (v_p0_past_next : Int32) (v_p0_past_size : Int32) (v_p0_past_ring_0_dimension : Int32) (v_p0_past_ring_0_alive : Int64) (v_p0_past_ring_0_steps : Int32) (v_p0_past_ring_0_messages : Int32) (c_p0_past_ring_0_states : (Nat → Int32)) (c_p0_past_ring_0_positions : (Nat → Int32)) (c_p0_past_ring_0_goals : (Nat → Int32)) (c_p0_past_ring_0_moveCounts : (Nat → Int32)) (c_p0_past_ring_0_detourCounts : (Nat → Int32)) (v_p0_past_ring_1_dimension : Int32) (v_p0_past_ring_1_alive : Int64) (v_p0_past_ring_1_steps : Int32) (v_p0_past_ring_1_messages : Int32) (c_p0_past_ring_1_states : (Nat → Int32)) (c_p0_past_ring_1_positions : (Nat → Int32)) (c_p0_past_ring_1_goals : (Nat → Int32)) (c_p0_past_ring_1_moveCounts : (Nat → Int32)) (c_p0_past_ring_1_detourCounts : (Nat → Int32)) (v_p0_past_ring_2_dimension : Int32) (v_p0_past_ring_2_alive : Int64) (v_p0_past_ring_2_steps : Int32) (v_p0_past_ring_2_messages : Int32) (c_p0_past_ring_2_states : (Nat → Int32)) (c_p0_past_ring_2_positions : (Nat → Int32)) (c_p0_past_ring_2_goals : (Nat → Int32)) (c_p0_past_ring_2_moveCounts : (Nat → Int32)) (c_p0_past_ring_2_detourCounts : (Nat → Int32)) (v_p0_past_ring_3_dimension : Int32) (v_p0_past_ring_3_alive : Int64) (v_p0_past_ring_3_steps : Int32) (v_p0_past_ring_3_messages : Int32) (c_p0_past_ring_3_states : (Nat → Int32)) (c_p0_past_ring_3_positions : (Nat → Int32)) (c_p0_past_ring_3_goals : (Nat → Int32)) (c_p0_past_ring_3_moveCounts : (Nat → Int32)) (c_p0_past_ring_3_detourCounts : (Nat → Int32)) (v_p0_safety_dimension : Int32) (v_p0_safety_changingRounds : Int32) (c_p0_safety_levels : (Nat → Int32)) (c_p0_safety_levelsBefore : (Nat → Int32)) (c_p0_safety_vectorSets : (Nat → Int64)) : Option rt_L_undo :=
zcx (f_X6_undo v_p0_now_dimension v_p0_now_alive v_p0_now_steps v_p0_now_messages c_p0_now_states c_p0_now_positions c_p0_now_goals c_p0_now_moveCounts c_p0_now_detourCounts v_p0_past_next v_p0_past_size v_p0_past_ring_0_dimension v_p0_past_ring_0_alive v_p0_past_ring_0_steps v_p0_past_ring_0_messages c_p0_past_ring_0_states c_p0_past_ring_0_positions c_p0_past_ring_0_goals c_p0_past_ring_0_moveCounts c_p0_past_ring_0_detourCounts v_p0_past_ring_1_dimension v_p0_past_ring_1_alive v_p0_past_ring_1_steps v_p0_past_ring_1_messages c_p0_past_ring_1_states c_p0_past_ring_1_positions c_p0_past_ring_1_goals c_p0_past_ring_1_moveCounts c_p0_past_ring_1_detourCounts v_p0_past_ring_2_dimension v_p0_past_ring_2_alive v_p0_past_ring_2_steps v_p0_past_ring_2_messages c_p0_past_ring_2_states c_p0_past_ring_2_positions c_p0_past_ring_2_goals c_p0_past_ring_2_moveCounts c_p0_past_ring_2_detourCounts v_p0_past_ring_3_dimension v_p0_past_ring_3_alive v_p0_past_ring_3_steps v_p0_past_ring_3_messages c_p0_past_ring_3_states c_p0_past_ring_3_positions c_p0_past_ring_3_goals c_p0_past_ring_3_moveCounts c_p0_past_ring_3_detourCounts v_p0_safety_dimension v_p0_safety_changingRounds c_p0_safety_levels c_p0_safety_levelsBefore c_p0_safety_vectorSets) (fun E => if E = "java/lang/IllegalStateException" then some ((-2000), v_p0_now_dimension, v_p0_now_alive, v_p0_now_steps, v_p0_now_messages, c_p0_now_states, c_p0_now_positions, c_p0_now_goals, c_p0_now_moveCounts, c_p0_now_detourCounts, v_p0_past_next, v_p0_past_size, v_p0_safety_dimension, v_p0_safety_changingRounds, c_p0_safety_levels, c_p0_safety_levelsBefore, c_p0_safety_vectorSets) else none) (fun u1 =>
zbd (A := Int32) u1.1 (fun x2 =>
some (x2, u1.2.1, u1.2.2.1, u1.2.2.2.1, u1.2.2.2.2.1, u1.2.2.2.2.2.1, u1.2.2.2.2.2.2.1, u1.2.2.2.2.2.2.2.1, u1.2.2.2.2.2.2.2.2.1, u1.2.2.2.2.2.2.2.2.2.1, u1.2.2.2.2.2.2.2.2.2.2.1, u1.2.2.2.2.2.2.2.2.2.2.2.1, u1.2.2.2.2.2.2.2.2.2.2.2.2.1, u1.2.2.2.2.2.2.2.2.2.2.2.2.2.1, u1.2.2.2.2.2.2.2.2.2.2.2.2.2.2.1, u1.2.2.2.2.2.2.2.2.2.2.2.2.2.2.2.1, u1.2.2.2.2.2.2.2.2.2.2.2.2.2.2.2.2)))
