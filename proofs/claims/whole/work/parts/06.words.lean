theorem j_u0 : ∀ w ∈ u_ws RX0 TX0 3, w ∈ lw_tbl := by decide +kernel
theorem j_u1 : ∀ w ∈ u_ws RX1 TX1 9, w ∈ lw_tbl := by decide +kernel
theorem j_u2 : ∀ w ∈ u_ws RX2 TX2 1, w ∈ lw_tbl := by decide +kernel
theorem j_u3 : ∀ w ∈ u_ws RX3 TX3 2, w ∈ lw_tbl := by decide +kernel
theorem j_u4 : ∀ w ∈ u_ws RX4 TX4 3, w ∈ lw_tbl := by decide +kernel
theorem j_u5 : ∀ w ∈ u_ws RX5 TX5 5, w ∈ lw_tbl := by decide +kernel
theorem j_u6 : ∀ w ∈ u_ws RX6 TX6 1, w ∈ lw_tbl := by decide +kernel
theorem j_u7 : ∀ w ∈ u_ws RX7 TX7 4, w ∈ lw_tbl := by decide +kernel
theorem j_u8 : ∀ w ∈ u_ws RX8 TX8 1, w ∈ lw_tbl := by decide +kernel
theorem j_u9 : ∀ w ∈ u_ws RX9 TX9 5, w ∈ lw_tbl := by decide +kernel
theorem j_u10 : ∀ w ∈ u_ws RX10 TX10 9, w ∈ lw_tbl := by decide +kernel
theorem j_u11 : ∀ w ∈ u_ws RX11 TX11 18, w ∈ lw_tbl := by decide +kernel
def j_mk (f : Nat) : Bool := j_wd (j_mp f).2.2.2.2 (.initialized (j_y f).cls) && (if (j_mp f).1 = 0 then j_wd (j_mp f).2.2.1 (.static (j_y f)) else j_wd (j_mp f).2.2.1 (.instanceMethod (j_y f))) && (if (j_mp f).1 = 1 then j_wd (j_mp f).2.2.2.1 (.selects (j_y f).cls (j_y f) (j_y f)) else true) && (if (j_mp f).1 = 2 then decide ((j_y f).name = "<init>") else true) && plainName (j_y f).cls && decide ((j_y f).cls ≠ "java/lang/invoke/MethodHandle") && decide ((j_y f).cls ≠ "java/lang/invoke/VarHandle") && decide (j_ml f ≤ 20)
theorem j_m0 : ([0, 1, 2, 3, 4, 5, 6, 7, 8, 9] : List Nat).all j_mk = true := by decide +kernel
theorem j_m1 : ([10, 11, 12, 13, 14, 15, 16, 17, 18, 19] : List Nat).all j_mk = true := by decide +kernel
theorem j_m2 : ([20, 21, 22, 23, 24, 25, 26, 27, 28, 29] : List Nat).all j_mk = true := by decide +kernel
theorem j_m3 : ([30, 31, 32, 33, 34, 35, 36, 37, 38, 39] : List Nat).all j_mk = true := by decide +kernel
theorem j_m4 : ([40, 41, 42, 43, 44, 45, 46, 47, 48, 49] : List Nat).all j_mk = true := by decide +kernel
theorem j_m5 : ([50, 51, 52, 53, 54, 55, 56, 57, 58, 59] : List Nat).all j_mk = true := by decide +kernel
theorem j_m6 : ([60, 61, 62, 63, 64, 65, 66, 67, 68, 69] : List Nat).all j_mk = true := by decide +kernel
theorem j_m7 : ([70, 71, 72, 73, 74, 75, 76, 77, 78, 79] : List Nat).all j_mk = true := by decide +kernel
theorem j_m8 : ([80, 81, 82, 83, 84, 85, 86, 87, 88, 89] : List Nat).all j_mk = true := by decide +kernel
theorem j_m9 : ([90, 91, 92, 93, 94, 95, 96, 97, 98, 99] : List Nat).all j_mk = true := by decide +kernel
theorem j_m10 : ([100, 101, 102, 103, 104, 105, 106, 107, 108, 109] : List Nat).all j_mk = true := by decide +kernel
theorem j_m11 : ([110, 111, 112, 113, 114, 115, 116, 117, 118, 119] : List Nat).all j_mk = true := by decide +kernel
theorem j_m12 : ([120, 121, 122, 123, 124, 125, 126, 127, 128, 129] : List Nat).all j_mk = true := by decide +kernel
theorem j_m13 : ([130, 131, 132, 133, 134, 135, 136, 137, 138, 139] : List Nat).all j_mk = true := by decide +kernel
theorem j_m14 : ([140, 141, 142, 143, 144, 145, 146, 147, 148, 149] : List Nat).all j_mk = true := by decide +kernel
theorem j_m15 : ([150, 151, 152, 153, 154, 155, 156, 157, 158, 159] : List Nat).all j_mk = true := by decide +kernel
theorem j_m16 : ([160, 161, 162, 163, 164, 165] : List Nat).all j_mk = true := by decide +kernel
set_option maxRecDepth 100000 in
theorem j_c0 : Cond.code (j_y 0) (j_code 0) (j_ml 0) (j_rt 0) ∈ lw_tbl := List.mem_of_getElem? (i := 186) rfl
set_option maxRecDepth 100000 in
theorem j_c1 : Cond.code (j_y 1) (j_code 1) (j_ml 1) (j_rt 1) ∈ lw_tbl := List.mem_of_getElem? (i := 457) rfl
set_option maxRecDepth 100000 in
theorem j_c2 : Cond.code (j_y 2) (j_code 2) (j_ml 2) (j_rt 2) ∈ lw_tbl := List.mem_of_getElem? (i := 461) rfl
set_option maxRecDepth 100000 in
theorem j_c3 : Cond.code (j_y 3) (j_code 3) (j_ml 3) (j_rt 3) ∈ lw_tbl := List.mem_of_getElem? (i := 471) rfl
set_option maxRecDepth 100000 in
theorem j_c4 : Cond.code (j_y 4) (j_code 4) (j_ml 4) (j_rt 4) ∈ lw_tbl := List.mem_of_getElem? (i := 467) rfl
set_option maxRecDepth 100000 in
theorem j_c5 : Cond.code (j_y 5) (j_code 5) (j_ml 5) (j_rt 5) ∈ lw_tbl := List.mem_of_getElem? (i := 546) rfl
set_option maxRecDepth 100000 in
theorem j_c6 : Cond.code (j_y 6) (j_code 6) (j_ml 6) (j_rt 6) ∈ lw_tbl := List.mem_of_getElem? (i := 219) rfl
set_option maxRecDepth 100000 in
theorem j_c7 : Cond.code (j_y 7) (j_code 7) (j_ml 7) (j_rt 7) ∈ lw_tbl := List.mem_of_getElem? (i := 488) rfl
set_option maxRecDepth 100000 in
theorem j_c8 : Cond.code (j_y 8) (j_code 8) (j_ml 8) (j_rt 8) ∈ lw_tbl := List.mem_of_getElem? (i := 516) rfl
set_option maxRecDepth 100000 in
theorem j_c9 : Cond.code (j_y 9) (j_code 9) (j_ml 9) (j_rt 9) ∈ lw_tbl := List.mem_of_getElem? (i := 327) rfl
set_option maxRecDepth 100000 in
theorem j_c10 : Cond.code (j_y 10) (j_code 10) (j_ml 10) (j_rt 10) ∈ lw_tbl := List.mem_of_getElem? (i := 737) rfl
set_option maxRecDepth 100000 in
theorem j_c11 : Cond.code (j_y 11) (j_code 11) (j_ml 11) (j_rt 11) ∈ lw_tbl := List.mem_of_getElem? (i := 742) rfl
set_option maxRecDepth 100000 in
theorem j_c12 : Cond.code (j_y 12) (j_code 12) (j_ml 12) (j_rt 12) ∈ lw_tbl := List.mem_of_getElem? (i := 225) rfl
set_option maxRecDepth 100000 in
theorem j_c13 : Cond.code (j_y 13) (j_code 13) (j_ml 13) (j_rt 13) ∈ lw_tbl := List.mem_of_getElem? (i := 492) rfl
set_option maxRecDepth 100000 in
theorem j_c14 : Cond.code (j_y 14) (j_code 14) (j_ml 14) (j_rt 14) ∈ lw_tbl := List.mem_of_getElem? (i := 499) rfl
set_option maxRecDepth 100000 in
theorem j_c15 : Cond.code (j_y 15) (j_code 15) (j_ml 15) (j_rt 15) ∈ lw_tbl := List.mem_of_getElem? (i := 502) rfl
set_option maxRecDepth 100000 in
theorem j_c16 : Cond.code (j_y 16) (j_code 16) (j_ml 16) (j_rt 16) ∈ lw_tbl := List.mem_of_getElem? (i := 574) rfl
set_option maxRecDepth 100000 in
theorem j_c17 : Cond.code (j_y 17) (j_code 17) (j_ml 17) (j_rt 17) ∈ lw_tbl := List.mem_of_getElem? (i := 569) rfl
set_option maxRecDepth 100000 in
theorem j_c18 : Cond.code (j_y 18) (j_code 18) (j_ml 18) (j_rt 18) ∈ lw_tbl := List.mem_of_getElem? (i := 286) rfl
set_option maxRecDepth 100000 in
theorem j_c19 : Cond.code (j_y 19) (j_code 19) (j_ml 19) (j_rt 19) ∈ lw_tbl := List.mem_of_getElem? (i := 596) rfl
set_option maxRecDepth 100000 in
theorem j_c20 : Cond.code (j_y 20) (j_code 20) (j_ml 20) (j_rt 20) ∈ lw_tbl := List.mem_of_getElem? (i := 601) rfl
set_option maxRecDepth 100000 in
theorem j_c21 : Cond.code (j_y 21) (j_code 21) (j_ml 21) (j_rt 21) ∈ lw_tbl := List.mem_of_getElem? (i := 605) rfl
set_option maxRecDepth 100000 in
theorem j_c22 : Cond.code (j_y 22) (j_code 22) (j_ml 22) (j_rt 22) ∈ lw_tbl := List.mem_of_getElem? (i := 161) rfl
set_option maxRecDepth 100000 in
theorem j_c23 : Cond.code (j_y 23) (j_code 23) (j_ml 23) (j_rt 23) ∈ lw_tbl := List.mem_of_getElem? (i := 424) rfl
set_option maxRecDepth 100000 in
theorem j_c24 : Cond.code (j_y 24) (j_code 24) (j_ml 24) (j_rt 24) ∈ lw_tbl := List.mem_of_getElem? (i := 428) rfl
set_option maxRecDepth 100000 in
theorem j_c25 : Cond.code (j_y 25) (j_code 25) (j_ml 25) (j_rt 25) ∈ lw_tbl := List.mem_of_getElem? (i := 444) rfl
set_option maxRecDepth 100000 in
theorem j_c26 : Cond.code (j_y 26) (j_code 26) (j_ml 26) (j_rt 26) ∈ lw_tbl := List.mem_of_getElem? (i := 448) rfl
set_option maxRecDepth 100000 in
theorem j_c27 : Cond.code (j_y 27) (j_code 27) (j_ml 27) (j_rt 27) ∈ lw_tbl := List.mem_of_getElem? (i := 433) rfl
set_option maxRecDepth 100000 in
theorem j_c28 : Cond.code (j_y 28) (j_code 28) (j_ml 28) (j_rt 28) ∈ lw_tbl := List.mem_of_getElem? (i := 440) rfl
set_option maxRecDepth 100000 in
theorem j_c29 : Cond.code (j_y 29) (j_code 29) (j_ml 29) (j_rt 29) ∈ lw_tbl := List.mem_of_getElem? (i := 532) rfl
set_option maxRecDepth 100000 in
theorem j_c30 : Cond.code (j_y 30) (j_code 30) (j_ml 30) (j_rt 30) ∈ lw_tbl := List.mem_of_getElem? (i := 528) rfl
set_option maxRecDepth 100000 in
theorem j_c31 : Cond.code (j_y 31) (j_code 31) (j_ml 31) (j_rt 31) ∈ lw_tbl := List.mem_of_getElem? (i := 274) rfl
set_option maxRecDepth 100000 in
theorem j_c32 : Cond.code (j_y 32) (j_code 32) (j_ml 32) (j_rt 32) ∈ lw_tbl := List.mem_of_getElem? (i := 563) rfl
set_option maxRecDepth 100000 in
theorem j_c33 : Cond.code (j_y 33) (j_code 33) (j_ml 33) (j_rt 33) ∈ lw_tbl := List.mem_of_getElem? (i := 580) rfl
set_option maxRecDepth 100000 in
theorem j_c34 : Cond.code (j_y 34) (j_code 34) (j_ml 34) (j_rt 34) ∈ lw_tbl := List.mem_of_getElem? (i := 584) rfl
set_option maxRecDepth 100000 in
theorem j_c35 : Cond.code (j_y 35) (j_code 35) (j_ml 35) (j_rt 35) ∈ lw_tbl := List.mem_of_getElem? (i := 303) rfl
set_option maxRecDepth 100000 in
theorem j_c36 : Cond.code (j_y 36) (j_code 36) (j_ml 36) (j_rt 36) ∈ lw_tbl := List.mem_of_getElem? (i := 649) rfl
set_option maxRecDepth 100000 in
theorem j_c37 : Cond.code (j_y 37) (j_code 37) (j_ml 37) (j_rt 37) ∈ lw_tbl := List.mem_of_getElem? (i := 657) rfl
set_option maxRecDepth 100000 in
theorem j_c38 : Cond.code (j_y 38) (j_code 38) (j_ml 38) (j_rt 38) ∈ lw_tbl := List.mem_of_getElem? (i := 689) rfl
set_option maxRecDepth 100000 in
theorem j_c39 : Cond.code (j_y 39) (j_code 39) (j_ml 39) (j_rt 39) ∈ lw_tbl := List.mem_of_getElem? (i := 713) rfl
set_option maxRecDepth 100000 in
theorem j_c40 : Cond.code (j_y 40) (j_code 40) (j_ml 40) (j_rt 40) ∈ lw_tbl := List.mem_of_getElem? (i := 653) rfl
set_option maxRecDepth 100000 in
theorem j_c41 : Cond.code (j_y 41) (j_code 41) (j_ml 41) (j_rt 41) ∈ lw_tbl := List.mem_of_getElem? (i := 645) rfl
set_option maxRecDepth 100000 in
theorem j_c42 : Cond.code (j_y 42) (j_code 42) (j_ml 42) (j_rt 42) ∈ lw_tbl := List.mem_of_getElem? (i := 669) rfl
set_option maxRecDepth 100000 in
theorem j_c43 : Cond.code (j_y 43) (j_code 43) (j_ml 43) (j_rt 43) ∈ lw_tbl := List.mem_of_getElem? (i := 673) rfl
set_option maxRecDepth 100000 in
theorem j_c44 : Cond.code (j_y 44) (j_code 44) (j_ml 44) (j_rt 44) ∈ lw_tbl := List.mem_of_getElem? (i := 681) rfl
set_option maxRecDepth 100000 in
theorem j_c45 : Cond.code (j_y 45) (j_code 45) (j_ml 45) (j_rt 45) ∈ lw_tbl := List.mem_of_getElem? (i := 693) rfl
set_option maxRecDepth 100000 in
theorem j_c46 : Cond.code (j_y 46) (j_code 46) (j_ml 46) (j_rt 46) ∈ lw_tbl := List.mem_of_getElem? (i := 697) rfl
set_option maxRecDepth 100000 in
theorem j_c47 : Cond.code (j_y 47) (j_code 47) (j_ml 47) (j_rt 47) ∈ lw_tbl := List.mem_of_getElem? (i := 701) rfl
set_option maxRecDepth 100000 in
theorem j_c48 : Cond.code (j_y 48) (j_code 48) (j_ml 48) (j_rt 48) ∈ lw_tbl := List.mem_of_getElem? (i := 717) rfl
set_option maxRecDepth 100000 in
theorem j_c49 : Cond.code (j_y 49) (j_code 49) (j_ml 49) (j_rt 49) ∈ lw_tbl := List.mem_of_getElem? (i := 204) rfl
set_option maxRecDepth 100000 in
theorem j_c50 : Cond.code (j_y 50) (j_code 50) (j_ml 50) (j_rt 50) ∈ lw_tbl := List.mem_of_getElem? (i := 344) rfl
set_option maxRecDepth 100000 in
theorem j_c51 : Cond.code (j_y 51) (j_code 51) (j_ml 51) (j_rt 51) ∈ lw_tbl := List.mem_of_getElem? (i := 592) rfl
set_option maxRecDepth 100000 in
theorem j_c52 : Cond.code (j_y 52) (j_code 52) (j_ml 52) (j_rt 52) ∈ lw_tbl := List.mem_of_getElem? (i := 588) rfl
set_option maxRecDepth 100000 in
theorem j_c53 : Cond.code (j_y 53) (j_code 53) (j_ml 53) (j_rt 53) ∈ lw_tbl := List.mem_of_getElem? (i := 665) rfl
set_option maxRecDepth 100000 in
theorem j_c54 : Cond.code (j_y 54) (j_code 54) (j_ml 54) (j_rt 54) ∈ lw_tbl := List.mem_of_getElem? (i := 508) rfl
set_option maxRecDepth 100000 in
theorem j_c55 : Cond.code (j_y 55) (j_code 55) (j_ml 55) (j_rt 55) ∈ lw_tbl := List.mem_of_getElem? (i := 119) rfl
set_option maxRecDepth 100000 in
theorem j_c56 : Cond.code (j_y 56) (j_code 56) (j_ml 56) (j_rt 56) ∈ lw_tbl := List.mem_of_getElem? (i := 337) rfl
set_option maxRecDepth 100000 in
theorem j_c57 : Cond.code (j_y 57) (j_code 57) (j_ml 57) (j_rt 57) ∈ lw_tbl := List.mem_of_getElem? (i := 395) rfl
set_option maxRecDepth 100000 in
theorem j_c58 : Cond.code (j_y 58) (j_code 58) (j_ml 58) (j_rt 58) ∈ lw_tbl := List.mem_of_getElem? (i := 414) rfl
set_option maxRecDepth 100000 in
theorem j_c59 : Cond.code (j_y 59) (j_code 59) (j_ml 59) (j_rt 59) ∈ lw_tbl := List.mem_of_getElem? (i := 480) rfl
set_option maxRecDepth 100000 in
theorem j_c60 : Cond.code (j_y 60) (j_code 60) (j_ml 60) (j_rt 60) ∈ lw_tbl := List.mem_of_getElem? (i := 476) rfl
set_option maxRecDepth 100000 in
theorem j_c61 : Cond.code (j_y 61) (j_code 61) (j_ml 61) (j_rt 61) ∈ lw_tbl := List.mem_of_getElem? (i := 111) rfl
set_option maxRecDepth 100000 in
theorem j_c62 : Cond.code (j_y 62) (j_code 62) (j_ml 62) (j_rt 62) ∈ lw_tbl := List.mem_of_getElem? (i := 376) rfl
set_option maxRecDepth 100000 in
theorem j_c63 : Cond.code (j_y 63) (j_code 63) (j_ml 63) (j_rt 63) ∈ lw_tbl := List.mem_of_getElem? (i := 384) rfl
set_option maxRecDepth 100000 in
theorem j_c64 : Cond.code (j_y 64) (j_code 64) (j_ml 64) (j_rt 64) ∈ lw_tbl := List.mem_of_getElem? (i := 402) rfl
set_option maxRecDepth 100000 in
theorem j_c65 : Cond.code (j_y 65) (j_code 65) (j_ml 65) (j_rt 65) ∈ lw_tbl := List.mem_of_getElem? (i := 406) rfl
set_option maxRecDepth 100000 in
theorem j_c66 : Cond.code (j_y 66) (j_code 66) (j_ml 66) (j_rt 66) ∈ lw_tbl := List.mem_of_getElem? (i := 410) rfl
set_option maxRecDepth 100000 in
theorem j_c67 : Cond.code (j_y 67) (j_code 67) (j_ml 67) (j_rt 67) ∈ lw_tbl := List.mem_of_getElem? (i := 520) rfl
set_option maxRecDepth 100000 in
theorem j_c68 : Cond.code (j_y 68) (j_code 68) (j_ml 68) (j_rt 68) ∈ lw_tbl := List.mem_of_getElem? (i := 524) rfl
set_option maxRecDepth 100000 in
theorem j_c69 : Cond.code (j_y 69) (j_code 69) (j_ml 69) (j_rt 69) ∈ lw_tbl := List.mem_of_getElem? (i := 536) rfl
set_option maxRecDepth 100000 in
theorem j_c70 : Cond.code (j_y 70) (j_code 70) (j_ml 70) (j_rt 70) ∈ lw_tbl := List.mem_of_getElem? (i := 542) rfl
set_option maxRecDepth 100000 in
theorem j_c71 : Cond.code (j_y 71) (j_code 71) (j_ml 71) (j_rt 71) ∈ lw_tbl := List.mem_of_getElem? (i := 550) rfl
set_option maxRecDepth 100000 in
theorem j_c72 : Cond.code (j_y 72) (j_code 72) (j_ml 72) (j_rt 72) ∈ lw_tbl := List.mem_of_getElem? (i := 554) rfl
set_option maxRecDepth 100000 in
theorem j_c73 : Cond.code (j_y 73) (j_code 73) (j_ml 73) (j_rt 73) ∈ lw_tbl := List.mem_of_getElem? (i := 559) rfl
set_option maxRecDepth 100000 in
theorem j_c74 : Cond.code (j_y 74) (j_code 74) (j_ml 74) (j_rt 74) ∈ lw_tbl := List.mem_of_getElem? (i := 619) rfl
set_option maxRecDepth 100000 in
theorem j_c75 : Cond.code (j_y 75) (j_code 75) (j_ml 75) (j_rt 75) ∈ lw_tbl := List.mem_of_getElem? (i := 624) rfl
set_option maxRecDepth 100000 in
theorem j_c76 : Cond.code (j_y 76) (j_code 76) (j_ml 76) (j_rt 76) ∈ lw_tbl := List.mem_of_getElem? (i := 629) rfl
set_option maxRecDepth 100000 in
theorem j_c77 : Cond.code (j_y 77) (j_code 77) (j_ml 77) (j_rt 77) ∈ lw_tbl := List.mem_of_getElem? (i := 633) rfl
set_option maxRecDepth 100000 in
theorem j_c78 : Cond.code (j_y 78) (j_code 78) (j_ml 78) (j_rt 78) ∈ lw_tbl := List.mem_of_getElem? (i := 641) rfl
set_option maxRecDepth 100000 in
theorem j_c79 : Cond.code (j_y 79) (j_code 79) (j_ml 79) (j_rt 79) ∈ lw_tbl := List.mem_of_getElem? (i := 661) rfl
set_option maxRecDepth 100000 in
theorem j_c80 : Cond.code (j_y 80) (j_code 80) (j_ml 80) (j_rt 80) ∈ lw_tbl := List.mem_of_getElem? (i := 677) rfl
set_option maxRecDepth 100000 in
theorem j_c81 : Cond.code (j_y 81) (j_code 81) (j_ml 81) (j_rt 81) ∈ lw_tbl := List.mem_of_getElem? (i := 685) rfl
set_option maxRecDepth 100000 in
theorem j_c82 : Cond.code (j_y 82) (j_code 82) (j_ml 82) (j_rt 82) ∈ lw_tbl := List.mem_of_getElem? (i := 705) rfl
set_option maxRecDepth 100000 in
theorem j_c83 : Cond.code (j_y 83) (j_code 83) (j_ml 83) (j_rt 83) ∈ lw_tbl := List.mem_of_getElem? (i := 709) rfl
set_option maxRecDepth 100000 in
theorem j_c84 : Cond.code (j_y 84) (j_code 84) (j_ml 84) (j_rt 84) ∈ lw_tbl := List.mem_of_getElem? (i := 722) rfl
set_option maxRecDepth 100000 in
theorem j_c85 : Cond.code (j_y 85) (j_code 85) (j_ml 85) (j_rt 85) ∈ lw_tbl := List.mem_of_getElem? (i := 726) rfl
set_option maxRecDepth 100000 in
theorem j_c86 : Cond.code (j_y 86) (j_code 86) (j_ml 86) (j_rt 86) ∈ lw_tbl := List.mem_of_getElem? (i := 731) rfl
set_option maxRecDepth 100000 in
theorem j_c87 : Cond.code (j_y 87) (j_code 87) (j_ml 87) (j_rt 87) ∈ lw_tbl := List.mem_of_getElem? (i := 388) rfl
set_option maxRecDepth 100000 in
theorem j_c88 : Cond.code (j_y 88) (j_code 88) (j_ml 88) (j_rt 88) ∈ lw_tbl := List.mem_of_getElem? (i := 453) rfl
set_option maxRecDepth 100000 in
theorem j_c89 : Cond.code (j_y 89) (j_code 89) (j_ml 89) (j_rt 89) ∈ lw_tbl := List.mem_of_getElem? (i := 484) rfl
set_option maxRecDepth 100000 in
theorem j_c90 : Cond.code (j_y 90) (j_code 90) (j_ml 90) (j_rt 90) ∈ lw_tbl := List.mem_of_getElem? (i := 379) rfl
set_option maxRecDepth 100000 in
theorem j_c91 : Cond.code (j_y 91) (j_code 91) (j_ml 91) (j_rt 91) ∈ lw_tbl := List.mem_of_getElem? (i := 391) rfl
set_option maxRecDepth 100000 in
theorem j_c92 : Cond.code (j_y 92) (j_code 92) (j_ml 92) (j_rt 92) ∈ lw_tbl := List.mem_of_getElem? (i := 398) rfl
set_option maxRecDepth 100000 in
theorem j_c93 : Cond.code (j_y 93) (j_code 93) (j_ml 93) (j_rt 93) ∈ lw_tbl := List.mem_of_getElem? (i := 436) rfl
set_option maxRecDepth 100000 in
theorem j_c94 : Cond.code (j_y 94) (j_code 94) (j_ml 94) (j_rt 94) ∈ lw_tbl := List.mem_of_getElem? (i := 637) rfl
set_option maxRecDepth 100000 in
theorem j_c95 : Cond.code (j_y 95) (j_code 95) (j_ml 95) (j_rt 95) ∈ lw_tbl := List.mem_of_getElem? (i := 747) rfl
set_option maxRecDepth 100000 in
theorem j_c96 : Cond.code (j_y 96) (j_code 96) (j_ml 96) (j_rt 96) ∈ lw_tbl := List.mem_of_getElem? (i := 759) rfl
set_option maxRecDepth 100000 in
theorem j_c97 : Cond.code (j_y 97) (j_code 97) (j_ml 97) (j_rt 97) ∈ lw_tbl := List.mem_of_getElem? (i := 750) rfl
set_option maxRecDepth 100000 in
theorem j_c98 : Cond.code (j_y 98) (j_code 98) (j_ml 98) (j_rt 98) ∈ lw_tbl := List.mem_of_getElem? (i := 764) rfl
set_option maxRecDepth 100000 in
theorem j_c99 : Cond.code (j_y 99) (j_code 99) (j_ml 99) (j_rt 99) ∈ lw_tbl := List.mem_of_getElem? (i := 832) rfl
set_option maxRecDepth 100000 in
theorem j_c100 : Cond.code (j_y 100) (j_code 100) (j_ml 100) (j_rt 100) ∈ lw_tbl := List.mem_of_getElem? (i := 769) rfl
set_option maxRecDepth 100000 in
theorem j_c101 : Cond.code (j_y 101) (j_code 101) (j_ml 101) (j_rt 101) ∈ lw_tbl := List.mem_of_getElem? (i := 841) rfl
set_option maxRecDepth 100000 in
theorem j_c102 : Cond.code (j_y 102) (j_code 102) (j_ml 102) (j_rt 102) ∈ lw_tbl := List.mem_of_getElem? (i := 828) rfl
set_option maxRecDepth 100000 in
theorem j_c103 : Cond.code (j_y 103) (j_code 103) (j_ml 103) (j_rt 103) ∈ lw_tbl := List.mem_of_getElem? (i := 837) rfl
set_option maxRecDepth 100000 in
theorem j_c104 : Cond.code (j_y 104) (j_code 104) (j_ml 104) (j_rt 104) ∈ lw_tbl := List.mem_of_getElem? (i := 847) rfl
set_option maxRecDepth 100000 in
theorem j_c105 : Cond.code (j_y 105) (j_code 105) (j_ml 105) (j_rt 105) ∈ lw_tbl := List.mem_of_getElem? (i := 851) rfl
set_option maxRecDepth 100000 in
theorem j_c106 : Cond.code (j_y 106) (j_code 106) (j_ml 106) (j_rt 106) ∈ lw_tbl := List.mem_of_getElem? (i := 907) rfl
set_option maxRecDepth 100000 in
theorem j_c107 : Cond.code (j_y 107) (j_code 107) (j_ml 107) (j_rt 107) ∈ lw_tbl := List.mem_of_getElem? (i := 863) rfl
set_option maxRecDepth 100000 in
theorem j_c108 : Cond.code (j_y 108) (j_code 108) (j_ml 108) (j_rt 108) ∈ lw_tbl := List.mem_of_getElem? (i := 859) rfl
set_option maxRecDepth 100000 in
theorem j_c109 : Cond.code (j_y 109) (j_code 109) (j_ml 109) (j_rt 109) ∈ lw_tbl := List.mem_of_getElem? (i := 855) rfl
set_option maxRecDepth 100000 in
theorem j_c110 : Cond.code (j_y 110) (j_code 110) (j_ml 110) (j_rt 110) ∈ lw_tbl := List.mem_of_getElem? (i := 871) rfl
set_option maxRecDepth 100000 in
theorem j_c111 : Cond.code (j_y 111) (j_code 111) (j_ml 111) (j_rt 111) ∈ lw_tbl := List.mem_of_getElem? (i := 875) rfl
set_option maxRecDepth 100000 in
theorem j_c112 : Cond.code (j_y 112) (j_code 112) (j_ml 112) (j_rt 112) ∈ lw_tbl := List.mem_of_getElem? (i := 879) rfl
set_option maxRecDepth 100000 in
theorem j_c113 : Cond.code (j_y 113) (j_code 113) (j_ml 113) (j_rt 113) ∈ lw_tbl := List.mem_of_getElem? (i := 867) rfl
set_option maxRecDepth 100000 in
theorem j_c114 : Cond.code (j_y 114) (j_code 114) (j_ml 114) (j_rt 114) ∈ lw_tbl := List.mem_of_getElem? (i := 891) rfl
set_option maxRecDepth 100000 in
theorem j_c115 : Cond.code (j_y 115) (j_code 115) (j_ml 115) (j_rt 115) ∈ lw_tbl := List.mem_of_getElem? (i := 951) rfl
set_option maxRecDepth 100000 in
theorem j_c116 : Cond.code (j_y 116) (j_code 116) (j_ml 116) (j_rt 116) ∈ lw_tbl := List.mem_of_getElem? (i := 959) rfl
set_option maxRecDepth 100000 in
theorem j_c117 : Cond.code (j_y 117) (j_code 117) (j_ml 117) (j_rt 117) ∈ lw_tbl := List.mem_of_getElem? (i := 955) rfl
set_option maxRecDepth 100000 in
theorem j_c118 : Cond.code (j_y 118) (j_code 118) (j_ml 118) (j_rt 118) ∈ lw_tbl := List.mem_of_getElem? (i := 963) rfl
set_option maxRecDepth 100000 in
theorem j_c119 : Cond.code (j_y 119) (j_code 119) (j_ml 119) (j_rt 119) ∈ lw_tbl := List.mem_of_getElem? (i := 887) rfl
set_option maxRecDepth 100000 in
theorem j_c120 : Cond.code (j_y 120) (j_code 120) (j_ml 120) (j_rt 120) ∈ lw_tbl := List.mem_of_getElem? (i := 896) rfl
set_option maxRecDepth 100000 in
theorem j_c121 : Cond.code (j_y 121) (j_code 121) (j_ml 121) (j_rt 121) ∈ lw_tbl := List.mem_of_getElem? (i := 883) rfl
set_option maxRecDepth 100000 in
theorem j_c122 : Cond.code (j_y 122) (j_code 122) (j_ml 122) (j_rt 122) ∈ lw_tbl := List.mem_of_getElem? (i := 967) rfl
set_option maxRecDepth 100000 in
theorem j_c123 : Cond.code (j_y 123) (j_code 123) (j_ml 123) (j_rt 123) ∈ lw_tbl := List.mem_of_getElem? (i := 971) rfl
set_option maxRecDepth 100000 in
theorem j_c124 : Cond.code (j_y 124) (j_code 124) (j_ml 124) (j_rt 124) ∈ lw_tbl := List.mem_of_getElem? (i := 904) rfl
set_option maxRecDepth 100000 in
theorem j_c125 : Cond.code (j_y 125) (j_code 125) (j_ml 125) (j_rt 125) ∈ lw_tbl := List.mem_of_getElem? (i := 975) rfl
set_option maxRecDepth 100000 in
theorem j_c126 : Cond.code (j_y 126) (j_code 126) (j_ml 126) (j_rt 126) ∈ lw_tbl := List.mem_of_getElem? (i := 900) rfl
set_option maxRecDepth 100000 in
theorem j_c127 : Cond.code (j_y 127) (j_code 127) (j_ml 127) (j_rt 127) ∈ lw_tbl := List.mem_of_getElem? (i := 915) rfl
set_option maxRecDepth 100000 in
theorem j_c128 : Cond.code (j_y 128) (j_code 128) (j_ml 128) (j_rt 128) ∈ lw_tbl := List.mem_of_getElem? (i := 927) rfl
set_option maxRecDepth 100000 in
theorem j_c129 : Cond.code (j_y 129) (j_code 129) (j_ml 129) (j_rt 129) ∈ lw_tbl := List.mem_of_getElem? (i := 923) rfl
set_option maxRecDepth 100000 in
theorem j_c130 : Cond.code (j_y 130) (j_code 130) (j_ml 130) (j_rt 130) ∈ lw_tbl := List.mem_of_getElem? (i := 919) rfl
set_option maxRecDepth 100000 in
theorem j_c131 : Cond.code (j_y 131) (j_code 131) (j_ml 131) (j_rt 131) ∈ lw_tbl := List.mem_of_getElem? (i := 911) rfl
set_option maxRecDepth 100000 in
theorem j_c132 : Cond.code (j_y 132) (j_code 132) (j_ml 132) (j_rt 132) ∈ lw_tbl := List.mem_of_getElem? (i := 935) rfl
set_option maxRecDepth 100000 in
theorem j_c133 : Cond.code (j_y 133) (j_code 133) (j_ml 133) (j_rt 133) ∈ lw_tbl := List.mem_of_getElem? (i := 931) rfl
set_option maxRecDepth 100000 in
theorem j_c134 : Cond.code (j_y 134) (j_code 134) (j_ml 134) (j_rt 134) ∈ lw_tbl := List.mem_of_getElem? (i := 943) rfl
set_option maxRecDepth 100000 in
theorem j_c135 : Cond.code (j_y 135) (j_code 135) (j_ml 135) (j_rt 135) ∈ lw_tbl := List.mem_of_getElem? (i := 939) rfl
set_option maxRecDepth 100000 in
theorem j_c136 : Cond.code (j_y 136) (j_code 136) (j_ml 136) (j_rt 136) ∈ lw_tbl := List.mem_of_getElem? (i := 947) rfl
set_option maxRecDepth 100000 in
theorem j_c137 : Cond.code (j_y 137) (j_code 137) (j_ml 137) (j_rt 137) ∈ lw_tbl := List.mem_of_getElem? (i := 984) rfl
set_option maxRecDepth 100000 in
theorem j_c138 : Cond.code (j_y 138) (j_code 138) (j_ml 138) (j_rt 138) ∈ lw_tbl := List.mem_of_getElem? (i := 992) rfl
set_option maxRecDepth 100000 in
theorem j_c139 : Cond.code (j_y 139) (j_code 139) (j_ml 139) (j_rt 139) ∈ lw_tbl := List.mem_of_getElem? (i := 988) rfl
set_option maxRecDepth 100000 in
theorem j_c140 : Cond.code (j_y 140) (j_code 140) (j_ml 140) (j_rt 140) ∈ lw_tbl := List.mem_of_getElem? (i := 996) rfl
set_option maxRecDepth 100000 in
theorem j_c141 : Cond.code (j_y 141) (j_code 141) (j_ml 141) (j_rt 141) ∈ lw_tbl := List.mem_of_getElem? (i := 979) rfl
set_option maxRecDepth 100000 in
theorem j_c142 : Cond.code (j_y 142) (j_code 142) (j_ml 142) (j_rt 142) ∈ lw_tbl := List.mem_of_getElem? (i := 1001) rfl
set_option maxRecDepth 100000 in
theorem j_c143 : Cond.code (j_y 143) (j_code 143) (j_ml 143) (j_rt 143) ∈ lw_tbl := List.mem_of_getElem? (i := 1009) rfl
set_option maxRecDepth 100000 in
theorem j_c144 : Cond.code (j_y 144) (j_code 144) (j_ml 144) (j_rt 144) ∈ lw_tbl := List.mem_of_getElem? (i := 1005) rfl
set_option maxRecDepth 100000 in
theorem j_c145 : Cond.code (j_y 145) (j_code 145) (j_ml 145) (j_rt 145) ∈ lw_tbl := List.mem_of_getElem? (i := 1017) rfl
set_option maxRecDepth 100000 in
theorem j_c146 : Cond.code (j_y 146) (j_code 146) (j_ml 146) (j_rt 146) ∈ lw_tbl := List.mem_of_getElem? (i := 1013) rfl
set_option maxRecDepth 100000 in
theorem j_c147 : Cond.code (j_y 147) (j_code 147) (j_ml 147) (j_rt 147) ∈ lw_tbl := List.mem_of_getElem? (i := 1021) rfl
set_option maxRecDepth 100000 in
theorem j_c148 : Cond.code (j_y 148) (j_code 148) (j_ml 148) (j_rt 148) ∈ lw_tbl := List.mem_of_getElem? (i := 1035) rfl
set_option maxRecDepth 100000 in
theorem j_c149 : Cond.code (j_y 149) (j_code 149) (j_ml 149) (j_rt 149) ∈ lw_tbl := List.mem_of_getElem? (i := 1039) rfl
set_option maxRecDepth 100000 in
theorem j_c150 : Cond.code (j_y 150) (j_code 150) (j_ml 150) (j_rt 150) ∈ lw_tbl := List.mem_of_getElem? (i := 1031) rfl
set_option maxRecDepth 100000 in
theorem j_c151 : Cond.code (j_y 151) (j_code 151) (j_ml 151) (j_rt 151) ∈ lw_tbl := List.mem_of_getElem? (i := 1027) rfl
set_option maxRecDepth 100000 in
theorem j_c152 : Cond.code (j_y 152) (j_code 152) (j_ml 152) (j_rt 152) ∈ lw_tbl := List.mem_of_getElem? (i := 1043) rfl
set_option maxRecDepth 100000 in
theorem j_c153 : Cond.code (j_y 153) (j_code 153) (j_ml 153) (j_rt 153) ∈ lw_tbl := List.mem_of_getElem? (i := 1047) rfl
set_option maxRecDepth 100000 in
theorem j_c154 : Cond.code (j_y 154) (j_code 154) (j_ml 154) (j_rt 154) ∈ lw_tbl := List.mem_of_getElem? (i := 1059) rfl
set_option maxRecDepth 100000 in
theorem j_c155 : Cond.code (j_y 155) (j_code 155) (j_ml 155) (j_rt 155) ∈ lw_tbl := List.mem_of_getElem? (i := 1055) rfl
set_option maxRecDepth 100000 in
theorem j_c156 : Cond.code (j_y 156) (j_code 156) (j_ml 156) (j_rt 156) ∈ lw_tbl := List.mem_of_getElem? (i := 1051) rfl
set_option maxRecDepth 100000 in
theorem j_c157 : Cond.code (j_y 157) (j_code 157) (j_ml 157) (j_rt 157) ∈ lw_tbl := List.mem_of_getElem? (i := 1063) rfl
set_option maxRecDepth 100000 in
theorem j_c158 : Cond.code (j_y 158) (j_code 158) (j_ml 158) (j_rt 158) ∈ lw_tbl := List.mem_of_getElem? (i := 1067) rfl
set_option maxRecDepth 100000 in
theorem j_c159 : Cond.code (j_y 159) (j_code 159) (j_ml 159) (j_rt 159) ∈ lw_tbl := List.mem_of_getElem? (i := 1071) rfl
set_option maxRecDepth 100000 in
theorem j_c160 : Cond.code (j_y 160) (j_code 160) (j_ml 160) (j_rt 160) ∈ lw_tbl := List.mem_of_getElem? (i := 1075) rfl
set_option maxRecDepth 100000 in
theorem j_c161 : Cond.code (j_y 161) (j_code 161) (j_ml 161) (j_rt 161) ∈ lw_tbl := List.mem_of_getElem? (i := 1085) rfl
set_option maxRecDepth 100000 in
theorem j_c162 : Cond.code (j_y 162) (j_code 162) (j_ml 162) (j_rt 162) ∈ lw_tbl := List.mem_of_getElem? (i := 1088) rfl
set_option maxRecDepth 100000 in
theorem j_c163 : Cond.code (j_y 163) (j_code 163) (j_ml 163) (j_rt 163) ∈ lw_tbl := List.mem_of_getElem? (i := 1079) rfl
set_option maxRecDepth 100000 in
theorem j_c164 : Cond.code (j_y 164) (j_code 164) (j_ml 164) (j_rt 164) ∈ lw_tbl := List.mem_of_getElem? (i := 417) rfl
set_option maxRecDepth 100000 in
theorem j_c165 : Cond.code (j_y 165) (j_code 165) (j_ml 165) (j_rt 165) ∈ lw_tbl := List.mem_of_getElem? (i := 340) rfl
set_option maxRecDepth 100000 in
theorem j_cl : ∀ q ∈ ([0, 1, 2, 3, 4, 5, 6, 7, 8, 9, 10, 11, 12, 13, 14, 15, 16, 17, 18, 19, 20, 21, 22, 23, 24, 25, 26, 27, 28, 29, 30, 31, 32, 33, 34, 35, 36, 37, 38, 39, 40, 41, 42, 43, 44, 45, 46, 47, 48, 49, 50, 51, 52, 53, 54, 55, 56, 57, 58, 59, 60, 61, 62, 63, 64, 65, 66, 67, 68, 69, 70, 71, 72, 73, 74, 75, 76, 77, 78, 79, 80, 81, 82, 83, 84, 85, 86, 87, 88, 89, 90, 91, 92, 93, 94, 95, 96, 97, 98, 99, 100, 101, 102, 103, 104, 105, 106, 107, 108, 109, 110, 111, 112, 113, 114, 115, 116, 117, 118, 119, 120, 121, 122, 123, 124, 125, 126, 127, 128, 129, 130, 131, 132, 133, 134, 135, 136, 137, 138, 139, 140, 141, 142, 143, 144, 145, 146, 147, 148, 149, 150, 151, 152, 153, 154, 155, 156, 157, 158, 159, 160, 161, 162, 163, 164, 165] : List Nat), Cond.code (j_y q) (j_code q) (j_ml q) (j_rt q) ∈ lw_tbl := List.forall_mem_cons.mpr ⟨j_c0, List.forall_mem_cons.mpr ⟨j_c1, List.forall_mem_cons.mpr ⟨j_c2, List.forall_mem_cons.mpr ⟨j_c3, List.forall_mem_cons.mpr ⟨j_c4, List.forall_mem_cons.mpr ⟨j_c5, List.forall_mem_cons.mpr ⟨j_c6, List.forall_mem_cons.mpr ⟨j_c7, List.forall_mem_cons.mpr ⟨j_c8, List.forall_mem_cons.mpr ⟨j_c9, List.forall_mem_cons.mpr ⟨j_c10, List.forall_mem_cons.mpr ⟨j_c11, List.forall_mem_cons.mpr ⟨j_c12, List.forall_mem_cons.mpr ⟨j_c13, List.forall_mem_cons.mpr ⟨j_c14, List.forall_mem_cons.mpr ⟨j_c15, List.forall_mem_cons.mpr ⟨j_c16, List.forall_mem_cons.mpr ⟨j_c17, List.forall_mem_cons.mpr ⟨j_c18, List.forall_mem_cons.mpr ⟨j_c19, List.forall_mem_cons.mpr ⟨j_c20, List.forall_mem_cons.mpr ⟨j_c21, List.forall_mem_cons.mpr ⟨j_c22, List.forall_mem_cons.mpr ⟨j_c23, List.forall_mem_cons.mpr ⟨j_c24, List.forall_mem_cons.mpr ⟨j_c25, List.forall_mem_cons.mpr ⟨j_c26, List.forall_mem_cons.mpr ⟨j_c27, List.forall_mem_cons.mpr ⟨j_c28, List.forall_mem_cons.mpr ⟨j_c29, List.forall_mem_cons.mpr ⟨j_c30, List.forall_mem_cons.mpr ⟨j_c31, List.forall_mem_cons.mpr ⟨j_c32, List.forall_mem_cons.mpr ⟨j_c33, List.forall_mem_cons.mpr ⟨j_c34, List.forall_mem_cons.mpr ⟨j_c35, List.forall_mem_cons.mpr ⟨j_c36, List.forall_mem_cons.mpr ⟨j_c37, List.forall_mem_cons.mpr ⟨j_c38, List.forall_mem_cons.mpr ⟨j_c39, List.forall_mem_cons.mpr ⟨j_c40, List.forall_mem_cons.mpr ⟨j_c41, List.forall_mem_cons.mpr ⟨j_c42, List.forall_mem_cons.mpr ⟨j_c43, List.forall_mem_cons.mpr ⟨j_c44, List.forall_mem_cons.mpr ⟨j_c45, List.forall_mem_cons.mpr ⟨j_c46, List.forall_mem_cons.mpr ⟨j_c47, List.forall_mem_cons.mpr ⟨j_c48, List.forall_mem_cons.mpr ⟨j_c49, List.forall_mem_cons.mpr ⟨j_c50, List.forall_mem_cons.mpr ⟨j_c51, List.forall_mem_cons.mpr ⟨j_c52, List.forall_mem_cons.mpr ⟨j_c53, List.forall_mem_cons.mpr ⟨j_c54, List.forall_mem_cons.mpr ⟨j_c55, List.forall_mem_cons.mpr ⟨j_c56, List.forall_mem_cons.mpr ⟨j_c57, List.forall_mem_cons.mpr ⟨j_c58, List.forall_mem_cons.mpr ⟨j_c59, List.forall_mem_cons.mpr ⟨j_c60, List.forall_mem_cons.mpr ⟨j_c61, List.forall_mem_cons.mpr ⟨j_c62, List.forall_mem_cons.mpr ⟨j_c63, List.forall_mem_cons.mpr ⟨j_c64, List.forall_mem_cons.mpr ⟨j_c65, List.forall_mem_cons.mpr ⟨j_c66, List.forall_mem_cons.mpr ⟨j_c67, List.forall_mem_cons.mpr ⟨j_c68, List.forall_mem_cons.mpr ⟨j_c69, List.forall_mem_cons.mpr ⟨j_c70, List.forall_mem_cons.mpr ⟨j_c71, List.forall_mem_cons.mpr ⟨j_c72, List.forall_mem_cons.mpr ⟨j_c73, List.forall_mem_cons.mpr ⟨j_c74, List.forall_mem_cons.mpr ⟨j_c75, List.forall_mem_cons.mpr ⟨j_c76, List.forall_mem_cons.mpr ⟨j_c77, List.forall_mem_cons.mpr ⟨j_c78, List.forall_mem_cons.mpr ⟨j_c79, List.forall_mem_cons.mpr ⟨j_c80, List.forall_mem_cons.mpr ⟨j_c81, List.forall_mem_cons.mpr ⟨j_c82, List.forall_mem_cons.mpr ⟨j_c83, List.forall_mem_cons.mpr ⟨j_c84, List.forall_mem_cons.mpr ⟨j_c85, List.forall_mem_cons.mpr ⟨j_c86, List.forall_mem_cons.mpr ⟨j_c87, List.forall_mem_cons.mpr ⟨j_c88, List.forall_mem_cons.mpr ⟨j_c89, List.forall_mem_cons.mpr ⟨j_c90, List.forall_mem_cons.mpr ⟨j_c91, List.forall_mem_cons.mpr ⟨j_c92, List.forall_mem_cons.mpr ⟨j_c93, List.forall_mem_cons.mpr ⟨j_c94, List.forall_mem_cons.mpr ⟨j_c95, List.forall_mem_cons.mpr ⟨j_c96, List.forall_mem_cons.mpr ⟨j_c97, List.forall_mem_cons.mpr ⟨j_c98, List.forall_mem_cons.mpr ⟨j_c99, List.forall_mem_cons.mpr ⟨j_c100, List.forall_mem_cons.mpr ⟨j_c101, List.forall_mem_cons.mpr ⟨j_c102, List.forall_mem_cons.mpr ⟨j_c103, List.forall_mem_cons.mpr ⟨j_c104, List.forall_mem_cons.mpr ⟨j_c105, List.forall_mem_cons.mpr ⟨j_c106, List.forall_mem_cons.mpr ⟨j_c107, List.forall_mem_cons.mpr ⟨j_c108, List.forall_mem_cons.mpr ⟨j_c109, List.forall_mem_cons.mpr ⟨j_c110, List.forall_mem_cons.mpr ⟨j_c111, List.forall_mem_cons.mpr ⟨j_c112, List.forall_mem_cons.mpr ⟨j_c113, List.forall_mem_cons.mpr ⟨j_c114, List.forall_mem_cons.mpr ⟨j_c115, List.forall_mem_cons.mpr ⟨j_c116, List.forall_mem_cons.mpr ⟨j_c117, List.forall_mem_cons.mpr ⟨j_c118, List.forall_mem_cons.mpr ⟨j_c119, List.forall_mem_cons.mpr ⟨j_c120, List.forall_mem_cons.mpr ⟨j_c121, List.forall_mem_cons.mpr ⟨j_c122, List.forall_mem_cons.mpr ⟨j_c123, List.forall_mem_cons.mpr ⟨j_c124, List.forall_mem_cons.mpr ⟨j_c125, List.forall_mem_cons.mpr ⟨j_c126, List.forall_mem_cons.mpr ⟨j_c127, List.forall_mem_cons.mpr ⟨j_c128, List.forall_mem_cons.mpr ⟨j_c129, List.forall_mem_cons.mpr ⟨j_c130, List.forall_mem_cons.mpr ⟨j_c131, List.forall_mem_cons.mpr ⟨j_c132, List.forall_mem_cons.mpr ⟨j_c133, List.forall_mem_cons.mpr ⟨j_c134, List.forall_mem_cons.mpr ⟨j_c135, List.forall_mem_cons.mpr ⟨j_c136, List.forall_mem_cons.mpr ⟨j_c137, List.forall_mem_cons.mpr ⟨j_c138, List.forall_mem_cons.mpr ⟨j_c139, List.forall_mem_cons.mpr ⟨j_c140, List.forall_mem_cons.mpr ⟨j_c141, List.forall_mem_cons.mpr ⟨j_c142, List.forall_mem_cons.mpr ⟨j_c143, List.forall_mem_cons.mpr ⟨j_c144, List.forall_mem_cons.mpr ⟨j_c145, List.forall_mem_cons.mpr ⟨j_c146, List.forall_mem_cons.mpr ⟨j_c147, List.forall_mem_cons.mpr ⟨j_c148, List.forall_mem_cons.mpr ⟨j_c149, List.forall_mem_cons.mpr ⟨j_c150, List.forall_mem_cons.mpr ⟨j_c151, List.forall_mem_cons.mpr ⟨j_c152, List.forall_mem_cons.mpr ⟨j_c153, List.forall_mem_cons.mpr ⟨j_c154, List.forall_mem_cons.mpr ⟨j_c155, List.forall_mem_cons.mpr ⟨j_c156, List.forall_mem_cons.mpr ⟨j_c157, List.forall_mem_cons.mpr ⟨j_c158, List.forall_mem_cons.mpr ⟨j_c159, List.forall_mem_cons.mpr ⟨j_c160, List.forall_mem_cons.mpr ⟨j_c161, List.forall_mem_cons.mpr ⟨j_c162, List.forall_mem_cons.mpr ⟨j_c163, List.forall_mem_cons.mpr ⟨j_c164, List.forall_mem_cons.mpr ⟨j_c165, fun _ h => absurd h List.not_mem_nil⟩⟩⟩⟩⟩⟩⟩⟩⟩⟩⟩⟩⟩⟩⟩⟩⟩⟩⟩⟩⟩⟩⟩⟩⟩⟩⟩⟩⟩⟩⟩⟩⟩⟩⟩⟩⟩⟩⟩⟩⟩⟩⟩⟩⟩⟩⟩⟩⟩⟩⟩⟩⟩⟩⟩⟩⟩⟩⟩⟩⟩⟩⟩⟩⟩⟩⟩⟩⟩⟩⟩⟩⟩⟩⟩⟩⟩⟩⟩⟩⟩⟩⟩⟩⟩⟩⟩⟩⟩⟩⟩⟩⟩⟩⟩⟩⟩⟩⟩⟩⟩⟩⟩⟩⟩⟩⟩⟩⟩⟩⟩⟩⟩⟩⟩⟩⟩⟩⟩⟩⟩⟩⟩⟩⟩⟩⟩⟩⟩⟩⟩⟩⟩⟩⟩⟩⟩⟩⟩⟩⟩⟩⟩⟩⟩⟩⟩⟩⟩⟩⟩⟩⟩⟩⟩⟩⟩⟩⟩⟩⟩⟩⟩⟩⟩⟩
theorem j_rng (n : Nat) {g : Nat} (h : g < n) : g ∈ List.range n := List.mem_range.mpr h
theorem j_call_code {g : Nat} (h : g < 166) : Cond.code (j_y g) (j_code g) (j_ml g) (j_rt g) ∈ lw_tbl := by
  have e : ([0, 1, 2, 3, 4, 5, 6, 7, 8, 9, 10, 11, 12, 13, 14, 15, 16, 17, 18, 19, 20, 21, 22, 23, 24, 25, 26, 27, 28, 29, 30, 31, 32, 33, 34, 35, 36, 37, 38, 39, 40, 41, 42, 43, 44, 45, 46, 47, 48, 49, 50, 51, 52, 53, 54, 55, 56, 57, 58, 59, 60, 61, 62, 63, 64, 65, 66, 67, 68, 69, 70, 71, 72, 73, 74, 75, 76, 77, 78, 79, 80, 81, 82, 83, 84, 85, 86, 87, 88, 89, 90, 91, 92, 93, 94, 95, 96, 97, 98, 99, 100, 101, 102, 103, 104, 105, 106, 107, 108, 109, 110, 111, 112, 113, 114, 115, 116, 117, 118, 119, 120, 121, 122, 123, 124, 125, 126, 127, 128, 129, 130, 131, 132, 133, 134, 135, 136, 137, 138, 139, 140, 141, 142, 143, 144, 145, 146, 147, 148, 149, 150, 151, 152, 153, 154, 155, 156, 157, 158, 159, 160, 161, 162, 163, 164, 165] : List Nat) = List.range 166 := by decide +kernel
  exact j_cl g (by rw [e]; exact j_rng 166 h)
theorem j_mall {g : Nat} (h : g < 166) : j_mk g = true := by
  have e : (([0, 1, 2, 3, 4, 5, 6, 7, 8, 9] : List Nat) ++ (([10, 11, 12, 13, 14, 15, 16, 17, 18, 19] : List Nat) ++ (([20, 21, 22, 23, 24, 25, 26, 27, 28, 29] : List Nat) ++ (([30, 31, 32, 33, 34, 35, 36, 37, 38, 39] : List Nat) ++ (([40, 41, 42, 43, 44, 45, 46, 47, 48, 49] : List Nat) ++ (([50, 51, 52, 53, 54, 55, 56, 57, 58, 59] : List Nat) ++ (([60, 61, 62, 63, 64, 65, 66, 67, 68, 69] : List Nat) ++ (([70, 71, 72, 73, 74, 75, 76, 77, 78, 79] : List Nat) ++ (([80, 81, 82, 83, 84, 85, 86, 87, 88, 89] : List Nat) ++ (([90, 91, 92, 93, 94, 95, 96, 97, 98, 99] : List Nat) ++ (([100, 101, 102, 103, 104, 105, 106, 107, 108, 109] : List Nat) ++ (([110, 111, 112, 113, 114, 115, 116, 117, 118, 119] : List Nat) ++ (([120, 121, 122, 123, 124, 125, 126, 127, 128, 129] : List Nat) ++ (([130, 131, 132, 133, 134, 135, 136, 137, 138, 139] : List Nat) ++ (([140, 141, 142, 143, 144, 145, 146, 147, 148, 149] : List Nat) ++ (([150, 151, 152, 153, 154, 155, 156, 157, 158, 159] : List Nat) ++ ([160, 161, 162, 163, 164, 165] : List Nat))))))))))))))))) = List.range 166 := by decide +kernel
  have hm := j_rng 166 h
  rw [← e] at hm
  have ha : ((([0, 1, 2, 3, 4, 5, 6, 7, 8, 9] : List Nat) ++ (([10, 11, 12, 13, 14, 15, 16, 17, 18, 19] : List Nat) ++ (([20, 21, 22, 23, 24, 25, 26, 27, 28, 29] : List Nat) ++ (([30, 31, 32, 33, 34, 35, 36, 37, 38, 39] : List Nat) ++ (([40, 41, 42, 43, 44, 45, 46, 47, 48, 49] : List Nat) ++ (([50, 51, 52, 53, 54, 55, 56, 57, 58, 59] : List Nat) ++ (([60, 61, 62, 63, 64, 65, 66, 67, 68, 69] : List Nat) ++ (([70, 71, 72, 73, 74, 75, 76, 77, 78, 79] : List Nat) ++ (([80, 81, 82, 83, 84, 85, 86, 87, 88, 89] : List Nat) ++ (([90, 91, 92, 93, 94, 95, 96, 97, 98, 99] : List Nat) ++ (([100, 101, 102, 103, 104, 105, 106, 107, 108, 109] : List Nat) ++ (([110, 111, 112, 113, 114, 115, 116, 117, 118, 119] : List Nat) ++ (([120, 121, 122, 123, 124, 125, 126, 127, 128, 129] : List Nat) ++ (([130, 131, 132, 133, 134, 135, 136, 137, 138, 139] : List Nat) ++ (([140, 141, 142, 143, 144, 145, 146, 147, 148, 149] : List Nat) ++ (([150, 151, 152, 153, 154, 155, 156, 157, 158, 159] : List Nat) ++ ([160, 161, 162, 163, 164, 165] : List Nat)))))))))))))))))).all j_mk = true := by
    simp only [List.all_append, Bool.and_eq_true]
    exact ⟨j_m0, ⟨j_m1, ⟨j_m2, ⟨j_m3, ⟨j_m4, ⟨j_m5, ⟨j_m6, ⟨j_m7, ⟨j_m8, ⟨j_m9, ⟨j_m10, ⟨j_m11, ⟨j_m12, ⟨j_m13, ⟨j_m14, ⟨j_m15, j_m16⟩⟩⟩⟩⟩⟩⟩⟩⟩⟩⟩⟩⟩⟩⟩⟩
  exact List.all_eq_true.mp ha g hm
