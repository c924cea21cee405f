theorem r_L_law_0 {d : Nat} {ls : List (Option Value)} {st : List Value} {h : j_H} {Q : Option Value → j_H → Prop} : WP d mL_law 0 (ls) (st) h Q = WP d mL_law 3 (ls) (.ref h.1 :: st) (hn h (j_nf 10) (oB 10 (j_df 10))) Q := w_new (show j_ins mL_law 0 = some (56, 3, 10, 0, 0, 7, 107) from rfl)
theorem r_L_law_3 {d : Nat} {ls : List (Option Value)} {st : List Value} {h : j_H} {Q : Option Value → j_H → Prop} {a : Nat} : WP d mL_law 3 (ls) (.ref a :: st) h Q = WP d mL_law 4 (ls) (.ref a :: .ref a :: st) h Q := w_dupr (show j_ins mL_law 3 = some (44, 4, 0, 0, 0, 0, 0) from rfl)
theorem r_L_law_4 {d : Nat} {ls : List (Option Value)} {h : j_H} {Q : Option Value → j_H → Prop} {u0 : Value} {a0 : Nat} : WP (d + 1) mL_law 4 ls [.ref a0, u0] h Q = WP d mX10_init 0 [some (.ref a0)] [] h (fun v h1 => WP (d + 1) mL_law 7 ls (pu v [u0]) h1 Q) := w_spe (show j_ins mL_law 4 = some (64, 7, mX10_init, 0, 0, 9, 109) from rfl) rfl rfl
theorem r_L_law_7 {d : Nat} {ls : List (Option Value)} {st : List Value} {h : j_H} {Q : Option Value → j_H → Prop} {l0 l1 : Option Value} {v : Nat} : WP d mL_law 7 (l0 :: l1 :: ls) (.ref v :: st) h Q = WP d mL_law 8 (cl l0 :: some (.ref v) :: ls) (st) h Q := w_astore (show j_ins mL_law 7 = some (5, 8, 1, 0, 0, 0, 0) from rfl) rfl
theorem r_L_law_8 {d : Nat} {ls : List (Option Value)} {st : List Value} {h : j_H} {Q : Option Value → j_H → Prop} : WP d mL_law 8 (ls) (st) h Q = WP d mL_law 11 (ls) (.ref h.1 :: st) (hn h (j_nf 11) (oB 11 (j_df 11))) Q := w_new (show j_ins mL_law 8 = some (56, 11, 11, 0, 0, 10, 760) from rfl)
theorem r_L_law_11 {d : Nat} {ls : List (Option Value)} {st : List Value} {h : j_H} {Q : Option Value → j_H → Prop} {a : Nat} : WP d mL_law 11 (ls) (.ref a :: st) h Q = WP d mL_law 12 (ls) (.ref a :: .ref a :: st) h Q := w_dupr (show j_ins mL_law 11 = some (44, 12, 0, 0, 0, 0, 0) from rfl)
theorem r_L_law_12 {d : Nat} {ls : List (Option Value)} {h : j_H} {Q : Option Value → j_H → Prop} {u0 : Value} {a0 : Nat} : WP (d + 1) mL_law 12 ls [.ref a0, u0] h Q = WP d mX11_init 0 [some (.ref a0)] [] h (fun v h1 => WP (d + 1) mL_law 15 ls (pu v [u0]) h1 Q) := w_spe (show j_ins mL_law 12 = some (64, 15, mX11_init, 0, 0, 12, 762) from rfl) rfl rfl
theorem r_L_law_15 {d : Nat} {ls : List (Option Value)} {st : List Value} {h : j_H} {Q : Option Value → j_H → Prop} {l0 l1 l2 : Option Value} {v : Nat} : WP d mL_law 15 (l0 :: l1 :: l2 :: ls) (.ref v :: st) h Q = WP d mL_law 16 (l0 :: cl l1 :: some (.ref v) :: ls) (st) h Q := w_astore (show j_ins mL_law 15 = some (5, 16, 2, 0, 0, 0, 0) from rfl) rfl
theorem r_L_law_16 {d : Nat} {ls : List (Option Value)} {st : List Value} {h : j_H} {Q : Option Value → j_H → Prop} : WP d mL_law 16 (ls) (st) h Q = WP d mL_law 17 (ls) (.int (nI 0) :: st) h Q := w_pushi (show j_ins mL_law 16 = some (6, 17, 0, 0, 0, 0, 0) from rfl) (by decide +kernel)
theorem r_L_law_17 {d : Nat} {ls : List (Option Value)} {st : List Value} {h : j_H} {Q : Option Value → j_H → Prop} {l0 l1 l2 l3 : Option Value} {v : Int32} : WP d mL_law 17 (l0 :: l1 :: l2 :: l3 :: ls) (.int v :: st) h Q = WP d mL_law 18 (l0 :: l1 :: cl l2 :: some (.int v) :: ls) (st) h Q := w_istore (show j_ins mL_law 17 = some (3, 18, 3, 0, 0, 0, 0) from rfl) rfl
theorem r_L_law_18 {d : Nat} {ls : List (Option Value)} {st : List Value} {h : j_H} {Q : Option Value → j_H → Prop} {l0 l1 l2 : Option Value} {v : Int32} : WP d mL_law 18 (l0 :: l1 :: l2 :: some (.int v) :: ls) (st) h Q = WP d mL_law 19 (l0 :: l1 :: l2 :: some (.int v) :: ls) (.int v :: st) h Q := w_iload (show j_ins mL_law 18 = some (0, 19, 3, 0, 0, 0, 0) from rfl) rfl
theorem r_L_law_19 {d : Nat} {ls : List (Option Value)} {st : List Value} {h : j_H} {Q : Option Value → j_H → Prop} {v : Nat} : WP d mL_law 19 (some (.ref v) :: ls) (st) h Q = WP d mL_law 20 (some (.ref v) :: ls) (.ref v :: st) h Q := w_aload (show j_ins mL_law 19 = some (2, 20, 0, 0, 0, 0, 0) from rfl) rfl
theorem r_L_law_20 {d : Nat} {ls : List (Option Value)} {st : List Value} {h : j_H} {Q : Option Value → j_H → Prop} {a : Nat} : WP d mL_law 20 (ls) (.ref a :: st) h Q = gN (hg h a) (fun n => WP d mL_law 21 (ls) (.int n :: st) h Q) := w_alenp (show j_ins mL_law 20 = some (55, 21, 0, 0, 0, 0, 0) from rfl)
theorem r_L_law_21 {d : Nat} {ls : List (Option Value)} {st : List Value} {h : j_H} {Q : Option Value → j_H → Prop} : WP d mL_law 21 (ls) (st) h Q = WP d mL_law 22 (ls) (.int (nI 4) :: st) h Q := w_pushi (show j_ins mL_law 21 = some (6, 22, 0, 0, 4, 0, 0) from rfl) (by decide +kernel)
theorem r_L_law_22 {d : Nat} {ls : List (Option Value)} {st : List Value} {h : j_H} {Q : Option Value → j_H → Prop} {a b : Int32} : WP d mL_law 22 (ls) (.int b :: .int a :: st) h Q = WP d mL_law 23 (ls) (.int (a - b) :: st) h Q := w_isub (show j_ins mL_law 22 = some (10, 23, 0, 0, 0, 0, 0) from rfl)
theorem r_L_law_23 {d : Nat} {ls : List (Option Value)} {st : List Value} {h : j_H} {Q : Option Value → j_H → Prop} {a b : Int32} : WP d mL_law 23 (ls) (.int b :: .int a :: st) h Q = (if b < a then WP d mL_law 800 (ls) (st) h Q else WP d mL_law 26 (ls) (st) h Q) := w_icgt (show j_ins mL_law 23 = some (40, 26, 800, 0, 777, 0, 0) from rfl)
theorem r_L_law_26 {d : Nat} {ls : List (Option Value)} {st : List Value} {h : j_H} {Q : Option Value → j_H → Prop} {v : Nat} : WP d mL_law 26 (some (.ref v) :: ls) (st) h Q = WP d mL_law 27 (some (.ref v) :: ls) (.ref v :: st) h Q := w_aload (show j_ins mL_law 26 = some (2, 27, 0, 0, 0, 0, 0) from rfl) rfl
theorem r_L_law_27 {d : Nat} {ls : List (Option Value)} {st : List Value} {h : j_H} {Q : Option Value → j_H → Prop} {l0 l1 l2 : Option Value} {v : Int32} : WP d mL_law 27 (l0 :: l1 :: l2 :: some (.int v) :: ls) (st) h Q = WP d mL_law 28 (l0 :: l1 :: l2 :: some (.int v) :: ls) (.int v :: st) h Q := w_iload (show j_ins mL_law 27 = some (0, 28, 3, 0, 0, 0, 0) from rfl) rfl
theorem r_L_law_28 {d : Nat} {ls : List (Option Value)} {st : List Value} {h : j_H} {Q : Option Value → j_H → Prop} {a : Nat} {i : Int32} : WP d mL_law 28 (ls) (.int i :: .ref a :: st) h Q = gI (hg h a) i (fun v => WP d mL_law 29 (ls) (.int v :: st) h Q) := w_iald (show j_ins mL_law 28 = some (49, 29, 0, 0, 0, 0, 0) from rfl)
theorem r_L_law_29 {d : Nat} {ls : List (Option Value)} {st : List Value} {h : j_H} {Q : Option Value → j_H → Prop} : WP d mL_law 29 (ls) (st) h Q = WP d mL_law 31 (ls) (.int (nI 31) :: st) h Q := w_pushi (show j_ins mL_law 29 = some (6, 31, 0, 0, 31, 0, 0) from rfl) (by decide +kernel)
theorem r_L_law_31 {d : Nat} {ls : List (Option Value)} {st : List Value} {h : j_H} {Q : Option Value → j_H → Prop} {a b : Int32} : WP d mL_law 31 (ls) (.int b :: .int a :: st) h Q = WP d mL_law 32 (ls) (.int (a &&& b) :: st) h Q := w_iand (show j_ins mL_law 31 = some (12, 32, 0, 0, 0, 0, 0) from rfl)
theorem r_L_law_32_0 {d : Nat} {ls : List (Option Value)} {st : List Value} {h : j_H} {Q : Option Value → j_H → Prop} : WP d mL_law 32 (ls) (.int (nI 0) :: st) h Q = WP d mL_law 148 (ls) (st) h Q := (w_sw (show j_ins mL_law 32 = some (43, 148, 794, 24, 0, 0, 6) from rfl)).trans (by rw [if_neg (by decide +kernel)]; rfl)
theorem r_L_law_32_1 {d : Nat} {ls : List (Option Value)} {st : List Value} {h : j_H} {Q : Option Value → j_H → Prop} : WP d mL_law 32 (ls) (.int (nI 1) :: st) h Q = WP d mL_law 171 (ls) (st) h Q := (w_sw (show j_ins mL_law 32 = some (43, 148, 794, 24, 0, 0, 6) from rfl)).trans (by rw [if_neg (by decide +kernel)]; rfl)
theorem r_L_law_32_2 {d : Nat} {ls : List (Option Value)} {st : List Value} {h : j_H} {Q : Option Value → j_H → Prop} : WP d mL_law 32 (ls) (.int (nI 2) :: st) h Q = WP d mL_law 214 (ls) (st) h Q := (w_sw (show j_ins mL_law 32 = some (43, 148, 794, 24, 0, 0, 6) from rfl)).trans (by rw [if_neg (by decide +kernel)]; rfl)
theorem r_L_law_32_3 {d : Nat} {ls : List (Option Value)} {st : List Value} {h : j_H} {Q : Option Value → j_H → Prop} : WP d mL_law 32 (ls) (.int (nI 3) :: st) h Q = WP d mL_law 247 (ls) (st) h Q := (w_sw (show j_ins mL_law 32 = some (43, 148, 794, 24, 0, 0, 6) from rfl)).trans (by rw [if_neg (by decide +kernel)]; rfl)
theorem r_L_law_32_4 {d : Nat} {ls : List (Option Value)} {st : List Value} {h : j_H} {Q : Option Value → j_H → Prop} : WP d mL_law 32 (ls) (.int (nI 4) :: st) h Q = WP d mL_law 280 (ls) (st) h Q := (w_sw (show j_ins mL_law 32 = some (43, 148, 794, 24, 0, 0, 6) from rfl)).trans (by rw [if_neg (by decide +kernel)]; rfl)
theorem r_L_law_32_5 {d : Nat} {ls : List (Option Value)} {st : List Value} {h : j_H} {Q : Option Value → j_H → Prop} : WP d mL_law 32 (ls) (.int (nI 5) :: st) h Q = WP d mL_law 303 (ls) (st) h Q := (w_sw (show j_ins mL_law 32 = some (43, 148, 794, 24, 0, 0, 6) from rfl)).trans (by rw [if_neg (by decide +kernel)]; rfl)
theorem r_L_law_32_6 {d : Nat} {ls : List (Option Value)} {st : List Value} {h : j_H} {Q : Option Value → j_H → Prop} : WP d mL_law 32 (ls) (.int (nI 6) :: st) h Q = WP d mL_law 326 (ls) (st) h Q := (w_sw (show j_ins mL_law 32 = some (43, 148, 794, 24, 0, 0, 6) from rfl)).trans (by rw [if_neg (by decide +kernel)]; rfl)
theorem r_L_law_32_7 {d : Nat} {ls : List (Option Value)} {st : List Value} {h : j_H} {Q : Option Value → j_H → Prop} : WP d mL_law 32 (ls) (.int (nI 7) :: st) h Q = WP d mL_law 339 (ls) (st) h Q := (w_sw (show j_ins mL_law 32 = some (43, 148, 794, 24, 0, 0, 6) from rfl)).trans (by rw [if_neg (by decide +kernel)]; rfl)
theorem r_L_law_32_8 {d : Nat} {ls : List (Option Value)} {st : List Value} {h : j_H} {Q : Option Value → j_H → Prop} : WP d mL_law 32 (ls) (.int (nI 8) :: st) h Q = WP d mL_law 362 (ls) (st) h Q := (w_sw (show j_ins mL_law 32 = some (43, 148, 794, 24, 0, 0, 6) from rfl)).trans (by rw [if_neg (by decide +kernel)]; rfl)
theorem r_L_law_32_9 {d : Nat} {ls : List (Option Value)} {st : List Value} {h : j_H} {Q : Option Value → j_H → Prop} : WP d mL_law 32 (ls) (.int (nI 9) :: st) h Q = WP d mL_law 385 (ls) (st) h Q := (w_sw (show j_ins mL_law 32 = some (43, 148, 794, 24, 0, 0, 6) from rfl)).trans (by rw [if_neg (by decide +kernel)]; rfl)
theorem r_L_law_32_10 {d : Nat} {ls : List (Option Value)} {st : List Value} {h : j_H} {Q : Option Value → j_H → Prop} : WP d mL_law 32 (ls) (.int (nI 10) :: st) h Q = WP d mL_law 408 (ls) (st) h Q := (w_sw (show j_ins mL_law 32 = some (43, 148, 794, 24, 0, 0, 6) from rfl)).trans (by rw [if_neg (by decide +kernel)]; rfl)
theorem r_L_law_32_11 {d : Nat} {ls : List (Option Value)} {st : List Value} {h : j_H} {Q : Option Value → j_H → Prop} : WP d mL_law 32 (ls) (.int (nI 11) :: st) h Q = WP d mL_law 431 (ls) (st) h Q := (w_sw (show j_ins mL_law 32 = some (43, 148, 794, 24, 0, 0, 6) from rfl)).trans (by rw [if_neg (by decide +kernel)]; rfl)
theorem r_L_law_32_12 {d : Nat} {ls : List (Option Value)} {st : List Value} {h : j_H} {Q : Option Value → j_H → Prop} : WP d mL_law 32 (ls) (.int (nI 12) :: st) h Q = WP d mL_law 454 (ls) (st) h Q := (w_sw (show j_ins mL_law 32 = some (43, 148, 794, 24, 0, 0, 6) from rfl)).trans (by rw [if_neg (by decide +kernel)]; rfl)
theorem r_L_law_32_13 {d : Nat} {ls : List (Option Value)} {st : List Value} {h : j_H} {Q : Option Value → j_H → Prop} : WP d mL_law 32 (ls) (.int (nI 13) :: st) h Q = WP d mL_law 487 (ls) (st) h Q := (w_sw (show j_ins mL_law 32 = some (43, 148, 794, 24, 0, 0, 6) from rfl)).trans (by rw [if_neg (by decide +kernel)]; rfl)
theorem r_L_law_32_14 {d : Nat} {ls : List (Option Value)} {st : List Value} {h : j_H} {Q : Option Value → j_H → Prop} : WP d mL_law 32 (ls) (.int (nI 14) :: st) h Q = WP d mL_law 520 (ls) (st) h Q := (w_sw (show j_ins mL_law 32 = some (43, 148, 794, 24, 0, 0, 6) from rfl)).trans (by rw [if_neg (by decide +kernel)]; rfl)
theorem r_L_law_32_15 {d : Nat} {ls : List (Option Value)} {st : List Value} {h : j_H} {Q : Option Value → j_H → Prop} : WP d mL_law 32 (ls) (.int (nI 15) :: st) h Q = WP d mL_law 543 (ls) (st) h Q := (w_sw (show j_ins mL_law 32 = some (43, 148, 794, 24, 0, 0, 6) from rfl)).trans (by rw [if_neg (by decide +kernel)]; rfl)
theorem r_L_law_32_16 {d : Nat} {ls : List (Option Value)} {st : List Value} {h : j_H} {Q : Option Value → j_H → Prop} : WP d mL_law 32 (ls) (.int (nI 16) :: st) h Q = WP d mL_law 566 (ls) (st) h Q := (w_sw (show j_ins mL_law 32 = some (43, 148, 794, 24, 0, 0, 6) from rfl)).trans (by rw [if_neg (by decide +kernel)]; rfl)
theorem r_L_law_32_17 {d : Nat} {ls : List (Option Value)} {st : List Value} {h : j_H} {Q : Option Value → j_H → Prop} : WP d mL_law 32 (ls) (.int (nI 17) :: st) h Q = WP d mL_law 579 (ls) (st) h Q := (w_sw (show j_ins mL_law 32 = some (43, 148, 794, 24, 0, 0, 6) from rfl)).trans (by rw [if_neg (by decide +kernel)]; rfl)
theorem r_L_law_32_18 {d : Nat} {ls : List (Option Value)} {st : List Value} {h : j_H} {Q : Option Value → j_H → Prop} : WP d mL_law 32 (ls) (.int (nI 18) :: st) h Q = WP d mL_law 622 (ls) (st) h Q := (w_sw (show j_ins mL_law 32 = some (43, 148, 794, 24, 0, 0, 6) from rfl)).trans (by rw [if_neg (by decide +kernel)]; rfl)
theorem r_L_law_32_19 {d : Nat} {ls : List (Option Value)} {st : List Value} {h : j_H} {Q : Option Value → j_H → Prop} : WP d mL_law 32 (ls) (.int (nI 19) :: st) h Q = WP d mL_law 635 (ls) (st) h Q := (w_sw (show j_ins mL_law 32 = some (43, 148, 794, 24, 0, 0, 6) from rfl)).trans (by rw [if_neg (by decide +kernel)]; rfl)
theorem r_L_law_32_20 {d : Nat} {ls : List (Option Value)} {st : List Value} {h : j_H} {Q : Option Value → j_H → Prop} : WP d mL_law 32 (ls) (.int (nI 20) :: st) h Q = WP d mL_law 648 (ls) (st) h Q := (w_sw (show j_ins mL_law 32 = some (43, 148, 794, 24, 0, 0, 6) from rfl)).trans (by rw [if_neg (by decide +kernel)]; rfl)
theorem r_L_law_32_21 {d : Nat} {ls : List (Option Value)} {st : List Value} {h : j_H} {Q : Option Value → j_H → Prop} : WP d mL_law 32 (ls) (.int (nI 21) :: st) h Q = WP d mL_law 661 (ls) (st) h Q := (w_sw (show j_ins mL_law 32 = some (43, 148, 794, 24, 0, 0, 6) from rfl)).trans (by rw [if_neg (by decide +kernel)]; rfl)
theorem r_L_law_32_22 {d : Nat} {ls : List (Option Value)} {st : List Value} {h : j_H} {Q : Option Value → j_H → Prop} : WP d mL_law 32 (ls) (.int (nI 22) :: st) h Q = WP d mL_law 684 (ls) (st) h Q := (w_sw (show j_ins mL_law 32 = some (43, 148, 794, 24, 0, 0, 6) from rfl)).trans (by rw [if_neg (by decide +kernel)]; rfl)
theorem r_L_law_32_23 {d : Nat} {ls : List (Option Value)} {st : List Value} {h : j_H} {Q : Option Value → j_H → Prop} : WP d mL_law 32 (ls) (.int (nI 23) :: st) h Q = WP d mL_law 717 (ls) (st) h Q := (w_sw (show j_ins mL_law 32 = some (43, 148, 794, 24, 0, 0, 6) from rfl)).trans (by rw [if_neg (by decide +kernel)]; rfl)
theorem r_L_law_32_24 {d : Nat} {ls : List (Option Value)} {st : List Value} {h : j_H} {Q : Option Value → j_H → Prop} : WP d mL_law 32 (ls) (.int (nI 24) :: st) h Q = WP d mL_law 760 (ls) (st) h Q := (w_sw (show j_ins mL_law 32 = some (43, 148, 794, 24, 0, 0, 6) from rfl)).trans (by rw [if_neg (by decide +kernel)]; rfl)
theorem r_L_law_32_d {d : Nat} {ls : List (Option Value)} {st : List Value} {h : j_H} {Q : Option Value → j_H → Prop} {a : Int32} (ha : a.toInt < 0 ∨ 24 < a.toInt) : WP d mL_law 32 (ls) (.int a :: st) h Q = WP d mL_law 794 (ls) (st) h Q := (w_sw (show j_ins mL_law 32 = some (43, 148, 794, 24, 0, 0, 6) from rfl)).trans (if_pos ha)
theorem r_L_law_148 {d : Nat} {ls : List (Option Value)} {st : List Value} {h : j_H} {Q : Option Value → j_H → Prop} {l0 : Option Value} {v : Nat} : WP d mL_law 148 (l0 :: some (.ref v) :: ls) (st) h Q = WP d mL_law 149 (l0 :: some (.ref v) :: ls) (.ref v :: st) h Q := w_aload (show j_ins mL_law 148 = some (2, 149, 1, 0, 0, 0, 0) from rfl) rfl
theorem r_L_law_149 {d : Nat} {ls : List (Option Value)} {st : List Value} {h : j_H} {Q : Option Value → j_H → Prop} {v : Nat} : WP d mL_law 149 (some (.ref v) :: ls) (st) h Q = WP d mL_law 150 (some (.ref v) :: ls) (.ref v :: st) h Q := w_aload (show j_ins mL_law 149 = some (2, 150, 0, 0, 0, 0, 0) from rfl) rfl
theorem r_L_law_150 {d : Nat} {ls : List (Option Value)} {st : List Value} {h : j_H} {Q : Option Value → j_H → Prop} {l0 l1 l2 : Option Value} {v : Int32} : WP d mL_law 150 (l0 :: l1 :: l2 :: some (.int v) :: ls) (st) h Q = WP d mL_law 151 (l0 :: l1 :: l2 :: some (.int v) :: ls) (.int v :: st) h Q := w_iload (show j_ins mL_law 150 = some (0, 151, 3, 0, 0, 0, 0) from rfl) rfl
theorem r_L_law_151 {d : Nat} {ls : List (Option Value)} {st : List Value} {h : j_H} {Q : Option Value → j_H → Prop} : WP d mL_law 151 (ls) (st) h Q = WP d mL_law 152 (ls) (.int (nI 1) :: st) h Q := w_pushi (show j_ins mL_law 151 = some (6, 152, 0, 0, 1, 0, 0) from rfl) (by decide +kernel)
theorem r_L_law_152 {d : Nat} {ls : List (Option Value)} {st : List Value} {h : j_H} {Q : Option Value → j_H → Prop} {a b : Int32} : WP d mL_law 152 (ls) (.int b :: .int a :: st) h Q = WP d mL_law 153 (ls) (.int (a + b) :: st) h Q := w_iadd (show j_ins mL_law 152 = some (9, 153, 0, 0, 0, 0, 0) from rfl)
theorem r_L_law_153 {d : Nat} {ls : List (Option Value)} {st : List Value} {h : j_H} {Q : Option Value → j_H → Prop} {a : Nat} {i : Int32} : WP d mL_law 153 (ls) (.int i :: .ref a :: st) h Q = gI (hg h a) i (fun v => WP d mL_law 154 (ls) (.int v :: st) h Q) := w_iald (show j_ins mL_law 153 = some (49, 154, 0, 0, 0, 0, 0) from rfl)
theorem r_L_law_154 {d : Nat} {ls : List (Option Value)} {h : j_H} {Q : Option Value → j_H → Prop} {a0 : Nat} {a1 : Int32} : WP (d + 1) mL_law 154 ls [.int a1, .ref a0] h Q = gO (hg h a0) 10 (WP d mX10_size 0 [some (.ref a0), some (.int a1), none] [] h (fun v h1 => WP (d + 1) mL_law 157 ls (pu v []) h1 Q)) := w_vir (k := 62) (ci := 10) (Or.inl rfl) (show j_ins mL_law 154 = some (62, 157, mX10_size, 1, 10, 13, 373) from rfl) rfl rfl rfl (Nat.le_of_ble_eq_true rfl) (Nat.le_of_ble_eq_true rfl) rfl
theorem r_L_law_157 {d : Nat} {ls : List (Option Value)} {st : List Value} {h : j_H} {Q : Option Value → j_H → Prop} {l0 l1 : Option Value} {v : Nat} : WP d mL_law 157 (l0 :: l1 :: some (.ref v) :: ls) (st) h Q = WP d mL_law 158 (l0 :: l1 :: some (.ref v) :: ls) (.ref v :: st) h Q := w_aload (show j_ins mL_law 157 = some (2, 158, 2, 0, 0, 0, 0) from rfl) rfl
theorem r_L_law_158 {d : Nat} {ls : List (Option Value)} {st : List Value} {h : j_H} {Q : Option Value → j_H → Prop} {v : Nat} : WP d mL_law 158 (some (.ref v) :: ls) (st) h Q = WP d mL_law 159 (some (.ref v) :: ls) (.ref v :: st) h Q := w_aload (show j_ins mL_law 158 = some (2, 159, 0, 0, 0, 0, 0) from rfl) rfl
theorem r_L_law_159 {d : Nat} {ls : List (Option Value)} {st : List Value} {h : j_H} {Q : Option Value → j_H → Prop} {l0 l1 l2 : Option Value} {v : Int32} : WP d mL_law 159 (l0 :: l1 :: l2 :: some (.int v) :: ls) (st) h Q = WP d mL_law 160 (l0 :: l1 :: l2 :: some (.int v) :: ls) (.int v :: st) h Q := w_iload (show j_ins mL_law 159 = some (0, 160, 3, 0, 0, 0, 0) from rfl) rfl
theorem r_L_law_160 {d : Nat} {ls : List (Option Value)} {st : List Value} {h : j_H} {Q : Option Value → j_H → Prop} : WP d mL_law 160 (ls) (st) h Q = WP d mL_law 161 (ls) (.int (nI 1) :: st) h Q := w_pushi (show j_ins mL_law 160 = some (6, 161, 0, 0, 1, 0, 0) from rfl) (by decide +kernel)
theorem r_L_law_161 {d : Nat} {ls : List (Option Value)} {st : List Value} {h : j_H} {Q : Option Value → j_H → Prop} {a b : Int32} : WP d mL_law 161 (ls) (.int b :: .int a :: st) h Q = WP d mL_law 162 (ls) (.int (a + b) :: st) h Q := w_iadd (show j_ins mL_law 161 = some (9, 162, 0, 0, 0, 0, 0) from rfl)
theorem r_L_law_162 {d : Nat} {ls : List (Option Value)} {st : List Value} {h : j_H} {Q : Option Value → j_H → Prop} {a : Nat} {i : Int32} : WP d mL_law 162 (ls) (.int i :: .ref a :: st) h Q = gI (hg h a) i (fun v => WP d mL_law 163 (ls) (.int v :: st) h Q) := w_iald (show j_ins mL_law 162 = some (49, 163, 0, 0, 0, 0, 0) from rfl)
theorem r_L_law_163 {d : Nat} {ls : List (Option Value)} {h : j_H} {Q : Option Value → j_H → Prop} {u0 : Value} {a0 : Nat} {a1 : Int32} : WP (d + 1) mL_law 163 ls [.int a1, .ref a0, u0] h Q = gO (hg h a0) 11 (WP d mX11_size 0 [some (.ref a0), some (.int a1), none] [] h (fun v h1 => WP (d + 1) mL_law 166 ls (pu v [u0]) h1 Q)) := w_vir (k := 62) (ci := 11) (Or.inl rfl) (show j_ins mL_law 163 = some (62, 166, mX11_size, 1, 11, 17, 825) from rfl) rfl rfl rfl (Nat.le_of_ble_eq_true rfl) (Nat.le_of_ble_eq_true rfl) rfl
theorem r_L_law_166 {d : Nat} {ls : List (Option Value)} {st : List Value} {h : j_H} {Q : Option Value → j_H → Prop} {a b : Int32} : WP d mL_law 166 (ls) (.int b :: .int a :: st) h Q = (if a = b then WP d mL_law 794 (ls) (st) h Q else WP d mL_law 169 (ls) (st) h Q) := w_iceq (show j_ins mL_law 166 = some (36, 169, 794, 0, 628, 0, 0) from rfl)
theorem r_L_law_169 {d : Nat} {ls : List (Option Value)} {st : List Value} {h : j_H} {Q : Option Value → j_H → Prop} : WP d mL_law 169 (ls) (st) h Q = WP d mL_law 170 (ls) (.int (nI 0) :: st) h Q := w_pushi (show j_ins mL_law 169 = some (6, 170, 0, 0, 0, 0, 0) from rfl) (by decide +kernel)
theorem r_L_law_170 {d : Nat} {ls : List (Option Value)} {h : j_H} {Q : Option Value → j_H → Prop} {v : Bool} : WP d mL_law 170 ls [.int (bI v)] h Q = Q (some (.int (bI v))) h := w_zret (show j_ins mL_law 170 = some (65, 171, 0, 0, 1, 0, 0) from rfl) (bI_01 v)
theorem r_L_law_170_0 {d : Nat} {ls : List (Option Value)} {h : j_H} {Q : Option Value → j_H → Prop} : WP d mL_law 170 ls [.int (nI 0)] h Q = Q (some (.int (bI false))) h := w_zret (show j_ins mL_law 170 = some (65, 171, 0, 0, 1, 0, 0) from rfl) (Or.inl rfl)
theorem r_L_law_170_1 {d : Nat} {ls : List (Option Value)} {h : j_H} {Q : Option Value → j_H → Prop} : WP d mL_law 170 ls [.int (nI 1)] h Q = Q (some (.int (bI true))) h := w_zret (show j_ins mL_law 170 = some (65, 171, 0, 0, 1, 0, 0) from rfl) (Or.inr rfl)
theorem r_L_law_171 {d : Nat} {ls : List (Option Value)} {st : List Value} {h : j_H} {Q : Option Value → j_H → Prop} {l0 : Option Value} {v : Nat} : WP d mL_law 171 (l0 :: some (.ref v) :: ls) (st) h Q = WP d mL_law 172 (l0 :: some (.ref v) :: ls) (.ref v :: st) h Q := w_aload (show j_ins mL_law 171 = some (2, 172, 1, 0, 0, 0, 0) from rfl) rfl
theorem r_L_law_172 {d : Nat} {ls : List (Option Value)} {st : List Value} {h : j_H} {Q : Option Value → j_H → Prop} {v : Nat} : WP d mL_law 172 (some (.ref v) :: ls) (st) h Q = WP d mL_law 173 (some (.ref v) :: ls) (.ref v :: st) h Q := w_aload (show j_ins mL_law 172 = some (2, 173, 0, 0, 0, 0, 0) from rfl) rfl
theorem r_L_law_173 {d : Nat} {ls : List (Option Value)} {st : List Value} {h : j_H} {Q : Option Value → j_H → Prop} {l0 l1 l2 : Option Value} {v : Int32} : WP d mL_law 173 (l0 :: l1 :: l2 :: some (.int v) :: ls) (st) h Q = WP d mL_law 174 (l0 :: l1 :: l2 :: some (.int v) :: ls) (.int v :: st) h Q := w_iload (show j_ins mL_law 173 = some (0, 174, 3, 0, 0, 0, 0) from rfl) rfl
theorem r_L_law_174 {d : Nat} {ls : List (Option Value)} {st : List Value} {h : j_H} {Q : Option Value → j_H → Prop} : WP d mL_law 174 (ls) (st) h Q = WP d mL_law 175 (ls) (.int (nI 1) :: st) h Q := w_pushi (show j_ins mL_law 174 = some (6, 175, 0, 0, 1, 0, 0) from rfl) (by decide +kernel)
theorem r_L_law_175 {d : Nat} {ls : List (Option Value)} {st : List Value} {h : j_H} {Q : Option Value → j_H → Prop} {a b : Int32} : WP d mL_law 175 (ls) (.int b :: .int a :: st) h Q = WP d mL_law 176 (ls) (.int (a + b) :: st) h Q := w_iadd (show j_ins mL_law 175 = some (9, 176, 0, 0, 0, 0, 0) from rfl)
theorem r_L_law_176 {d : Nat} {ls : List (Option Value)} {st : List Value} {h : j_H} {Q : Option Value → j_H → Prop} {a : Nat} {i : Int32} : WP d mL_law 176 (ls) (.int i :: .ref a :: st) h Q = gI (hg h a) i (fun v => WP d mL_law 177 (ls) (.int v :: st) h Q) := w_iald (show j_ins mL_law 176 = some (49, 177, 0, 0, 0, 0, 0) from rfl)
theorem r_L_law_177 {d : Nat} {ls : List (Option Value)} {st : List Value} {h : j_H} {Q : Option Value → j_H → Prop} {v : Nat} : WP d mL_law 177 (some (.ref v) :: ls) (st) h Q = WP d mL_law 178 (some (.ref v) :: ls) (.ref v :: st) h Q := w_aload (show j_ins mL_law 177 = some (2, 178, 0, 0, 0, 0, 0) from rfl) rfl
theorem r_L_law_178 {d : Nat} {ls : List (Option Value)} {st : List Value} {h : j_H} {Q : Option Value → j_H → Prop} {l0 l1 l2 : Option Value} {v : Int32} : WP d mL_law 178 (l0 :: l1 :: l2 :: some (.int v) :: ls) (st) h Q = WP d mL_law 179 (l0 :: l1 :: l2 :: some (.int v) :: ls) (.int v :: st) h Q := w_iload (show j_ins mL_law 178 = some (0, 179, 3, 0, 0, 0, 0) from rfl) rfl
theorem r_L_law_179 {d : Nat} {ls : List (Option Value)} {st : List Value} {h : j_H} {Q : Option Value → j_H → Prop} : WP d mL_law 179 (ls) (st) h Q = WP d mL_law 180 (ls) (.int (nI 2) :: st) h Q := w_pushi (show j_ins mL_law 179 = some (6, 180, 0, 0, 2, 0, 0) from rfl) (by decide +kernel)
theorem r_L_law_180 {d : Nat} {ls : List (Option Value)} {st : List Value} {h : j_H} {Q : Option Value → j_H → Prop} {a b : Int32} : WP d mL_law 180 (ls) (.int b :: .int a :: st) h Q = WP d mL_law 181 (ls) (.int (a + b) :: st) h Q := w_iadd (show j_ins mL_law 180 = some (9, 181, 0, 0, 0, 0, 0) from rfl)
theorem r_L_law_181 {d : Nat} {ls : List (Option Value)} {st : List Value} {h : j_H} {Q : Option Value → j_H → Prop} {a : Nat} {i : Int32} : WP d mL_law 181 (ls) (.int i :: .ref a :: st) h Q = gI (hg h a) i (fun v => WP d mL_law 182 (ls) (.int v :: st) h Q) := w_iald (show j_ins mL_law 181 = some (49, 182, 0, 0, 0, 0, 0) from rfl)
theorem r_L_law_182 {d : Nat} {ls : List (Option Value)} {st : List Value} {h : j_H} {Q : Option Value → j_H → Prop} {v : Nat} : WP d mL_law 182 (some (.ref v) :: ls) (st) h Q = WP d mL_law 183 (some (.ref v) :: ls) (.ref v :: st) h Q := w_aload (show j_ins mL_law 182 = some (2, 183, 0, 0, 0, 0, 0) from rfl) rfl
theorem r_L_law_183 {d : Nat} {ls : List (Option Value)} {st : List Value} {h : j_H} {Q : Option Value → j_H → Prop} {l0 l1 l2 : Option Value} {v : Int32} : WP d mL_law 183 (l0 :: l1 :: l2 :: some (.int v) :: ls) (st) h Q = WP d mL_law 184 (l0 :: l1 :: l2 :: some (.int v) :: ls) (.int v :: st) h Q := w_iload (show j_ins mL_law 183 = some (0, 184, 3, 0, 0, 0, 0) from rfl) rfl
theorem r_L_law_184 {d : Nat} {ls : List (Option Value)} {st : List Value} {h : j_H} {Q : Option Value → j_H → Prop} : WP d mL_law 184 (ls) (st) h Q = WP d mL_law 185 (ls) (.int (nI 3) :: st) h Q := w_pushi (show j_ins mL_law 184 = some (6, 185, 0, 0, 3, 0, 0) from rfl) (by decide +kernel)
theorem r_L_law_185 {d : Nat} {ls : List (Option Value)} {st : List Value} {h : j_H} {Q : Option Value → j_H → Prop} {a b : Int32} : WP d mL_law 185 (ls) (.int b :: .int a :: st) h Q = WP d mL_law 186 (ls) (.int (a + b) :: st) h Q := w_iadd (show j_ins mL_law 185 = some (9, 186, 0, 0, 0, 0, 0) from rfl)
set_option maxRecDepth 100000 in
theorem r_L_law_186 {d : Nat} {ls : List (Option Value)} {st : List Value} {h : j_H} {Q : Option Value → j_H → Prop} {a : Nat} {i : Int32} : WP d mL_law 186 (ls) (.int i :: .ref a :: st) h Q = gI (hg h a) i (fun v => WP d mL_law 187 (ls) (.int v :: st) h Q) := w_iald (show j_ins mL_law 186 = some (49, 187, 0, 0, 0, 0, 0) from rfl)
set_option maxRecDepth 100000 in
theorem r_L_law_187 {d : Nat} {ls : List (Option Value)} {h : j_H} {Q : Option Value → j_H → Prop} {a0 : Nat} {a1 : Int32} {a2 : Int32} {a3 : Int32} : WP (d + 1) mL_law 187 ls [.int a3, .int a2, .int a1, .ref a0] h Q = gO (hg h a0) 10 (WP d mX10_set 0 [some (.ref a0), some (.int a1), some (.int a2), some (.int a3), none] [] h (fun v h1 => WP (d + 1) mL_law 190 ls (pu v []) h1 Q)) := w_vir (k := 62) (ci := 10) (Or.inl rfl) (show j_ins mL_law 187 = some (62, 190, mX10_set, 3, 10, 18, 381) from rfl) rfl rfl rfl (Nat.le_of_ble_eq_true rfl) (Nat.le_of_ble_eq_true rfl) rfl
set_option maxRecDepth 100000 in
theorem r_L_law_190 {d : Nat} {ls : List (Option Value)} {st : List Value} {h : j_H} {Q : Option Value → j_H → Prop} {l0 l1 : Option Value} {v : Nat} : WP d mL_law 190 (l0 :: l1 :: some (.ref v) :: ls) (st) h Q = WP d mL_law 191 (l0 :: l1 :: some (.ref v) :: ls) (.ref v :: st) h Q := w_aload (show j_ins mL_law 190 = some (2, 191, 2, 0, 0, 0, 0) from rfl) rfl
set_option maxRecDepth 100000 in
theorem r_L_law_191 {d : Nat} {ls : List (Option Value)} {st : List Value} {h : j_H} {Q : Option Value → j_H → Prop} {v : Nat} : WP d mL_law 191 (some (.ref v) :: ls) (st) h Q = WP d mL_law 192 (some (.ref v) :: ls) (.ref v :: st) h Q := w_aload (show j_ins mL_law 191 = some (2, 192, 0, 0, 0, 0, 0) from rfl) rfl
set_option maxRecDepth 100000 in
theorem r_L_law_192 {d : Nat} {ls : List (Option Value)} {st : List Value} {h : j_H} {Q : Option Value → j_H → Prop} {l0 l1 l2 : Option Value} {v : Int32} : WP d mL_law 192 (l0 :: l1 :: l2 :: some (.int v) :: ls) (st) h Q = WP d mL_law 193 (l0 :: l1 :: l2 :: some (.int v) :: ls) (.int v :: st) h Q := w_iload (show j_ins mL_law 192 = some (0, 193, 3, 0, 0, 0, 0) from rfl) rfl
set_option maxRecDepth 100000 in
theorem r_L_law_193 {d : Nat} {ls : List (Option Value)} {st : List Value} {h : j_H} {Q : Option Value → j_H → Prop} : WP d mL_law 193 (ls) (st) h Q = WP d mL_law 194 (ls) (.int (nI 1) :: st) h Q := w_pushi (show j_ins mL_law 193 = some (6, 194, 0, 0, 1, 0, 0) from rfl) (by decide +kernel)
set_option maxRecDepth 100000 in
theorem r_L_law_194 {d : Nat} {ls : List (Option Value)} {st : List Value} {h : j_H} {Q : Option Value → j_H → Prop} {a b : Int32} : WP d mL_law 194 (ls) (.int b :: .int a :: st) h Q = WP d mL_law 195 (ls) (.int (a + b) :: st) h Q := w_iadd (show j_ins mL_law 194 = some (9, 195, 0, 0, 0, 0, 0) from rfl)
set_option maxRecDepth 100000 in
theorem r_L_law_195 {d : Nat} {ls : List (Option Value)} {st : List Value} {h : j_H} {Q : Option Value → j_H → Prop} {a : Nat} {i : Int32} : WP d mL_law 195 (ls) (.int i :: .ref a :: st) h Q = gI (hg h a) i (fun v => WP d mL_law 196 (ls) (.int v :: st) h Q) := w_iald (show j_ins mL_law 195 = some (49, 196, 0, 0, 0, 0, 0) from rfl)
set_option maxRecDepth 100000 in
theorem r_L_law_196 {d : Nat} {ls : List (Option Value)} {st : List Value} {h : j_H} {Q : Option Value → j_H → Prop} {v : Nat} : WP d mL_law 196 (some (.ref v) :: ls) (st) h Q = WP d mL_law 197 (some (.ref v) :: ls) (.ref v :: st) h Q := w_aload (show j_ins mL_law 196 = some (2, 197, 0, 0, 0, 0, 0) from rfl) rfl
set_option maxRecDepth 100000 in
theorem r_L_law_197 {d : Nat} {ls : List (Option Value)} {st : List Value} {h : j_H} {Q : Option Value → j_H → Prop} {l0 l1 l2 : Option Value} {v : Int32} : WP d mL_law 197 (l0 :: l1 :: l2 :: some (.int v) :: ls) (st) h Q = WP d mL_law 198 (l0 :: l1 :: l2 :: some (.int v) :: ls) (.int v :: st) h Q := w_iload (show j_ins mL_law 197 = some (0, 198, 3, 0, 0, 0, 0) from rfl) rfl
set_option maxRecDepth 100000 in
theorem r_L_law_198 {d : Nat} {ls : List (Option Value)} {st : List Value} {h : j_H} {Q : Option Value → j_H → Prop} : WP d mL_law 198 (ls) (st) h Q = WP d mL_law 199 (ls) (.int (nI 2) :: st) h Q := w_pushi (show j_ins mL_law 198 = some (6, 199, 0, 0, 2, 0, 0) from rfl) (by decide +kernel)
set_option maxRecDepth 100000 in
theorem r_L_law_199 {d : Nat} {ls : List (Option Value)} {st : List Value} {h : j_H} {Q : Option Value → j_H → Prop} {a b : Int32} : WP d mL_law 199 (ls) (.int b :: .int a :: st) h Q = WP d mL_law 200 (ls) (.int (a + b) :: st) h Q := w_iadd (show j_ins mL_law 199 = some (9, 200, 0, 0, 0, 0, 0) from rfl)
set_option maxRecDepth 100000 in
theorem r_L_law_200 {d : Nat} {ls : List (Option Value)} {st : List Value} {h : j_H} {Q : Option Value → j_H → Prop} {a : Nat} {i : Int32} : WP d mL_law 200 (ls) (.int i :: .ref a :: st) h Q = gI (hg h a) i (fun v => WP d mL_law 201 (ls) (.int v :: st) h Q) := w_iald (show j_ins mL_law 200 = some (49, 201, 0, 0, 0, 0, 0) from rfl)
set_option maxRecDepth 100000 in
theorem r_L_law_201 {d : Nat} {ls : List (Option Value)} {st : List Value} {h : j_H} {Q : Option Value → j_H → Prop} {v : Nat} : WP d mL_law 201 (some (.ref v) :: ls) (st) h Q = WP d mL_law 202 (some (.ref v) :: ls) (.ref v :: st) h Q := w_aload (show j_ins mL_law 201 = some (2, 202, 0, 0, 0, 0, 0) from rfl) rfl
set_option maxRecDepth 100000 in
theorem r_L_law_202 {d : Nat} {ls : List (Option Value)} {st : List Value} {h : j_H} {Q : Option Value → j_H → Prop} {l0 l1 l2 : Option Value} {v : Int32} : WP d mL_law 202 (l0 :: l1 :: l2 :: some (.int v) :: ls) (st) h Q = WP d mL_law 203 (l0 :: l1 :: l2 :: some (.int v) :: ls) (.int v :: st) h Q := w_iload (show j_ins mL_law 202 = some (0, 203, 3, 0, 0, 0, 0) from rfl) rfl
set_option maxRecDepth 100000 in
theorem r_L_law_203 {d : Nat} {ls : List (Option Value)} {st : List Value} {h : j_H} {Q : Option Value → j_H → Prop} : WP d mL_law 203 (ls) (st) h Q = WP d mL_law 204 (ls) (.int (nI 3) :: st) h Q := w_pushi (show j_ins mL_law 203 = some (6, 204, 0, 0, 3, 0, 0) from rfl) (by decide +kernel)
set_option maxRecDepth 100000 in
theorem r_L_law_204 {d : Nat} {ls : List (Option Value)} {st : List Value} {h : j_H} {Q : Option Value → j_H → Prop} {a b : Int32} : WP d mL_law 204 (ls) (.int b :: .int a :: st) h Q = WP d mL_law 205 (ls) (.int (a + b) :: st) h Q := w_iadd (show j_ins mL_law 204 = some (9, 205, 0, 0, 0, 0, 0) from rfl)
set_option maxRecDepth 100000 in
theorem r_L_law_205 {d : Nat} {ls : List (Option Value)} {st : List Value} {h : j_H} {Q : Option Value → j_H → Prop} {a : Nat} {i : Int32} : WP d mL_law 205 (ls) (.int i :: .ref a :: st) h Q = gI (hg h a) i (fun v => WP d mL_law 206 (ls) (.int v :: st) h Q) := w_iald (show j_ins mL_law 205 = some (49, 206, 0, 0, 0, 0, 0) from rfl)
set_option maxRecDepth 100000 in
theorem r_L_law_206 {d : Nat} {ls : List (Option Value)} {h : j_H} {Q : Option Value → j_H → Prop} {u0 : Value} {a0 : Nat} {a1 : Int32} {a2 : Int32} {a3 : Int32} : WP (d + 1) mL_law 206 ls [.int a3, .int a2, .int a1, .ref a0, u0] h Q = gO (hg h a0) 11 (WP d mX11_set 0 [some (.ref a0), some (.int a1), some (.int a2), some (.int a3), none] [] h (fun v h1 => WP (d + 1) mL_law 209 ls (pu v [u0]) h1 Q)) := w_vir (k := 62) (ci := 11) (Or.inl rfl) (show j_ins mL_law 206 = some (62, 209, mX11_set, 3, 11, 22, 834) from rfl) rfl rfl rfl (Nat.le_of_ble_eq_true rfl) (Nat.le_of_ble_eq_true rfl) rfl
set_option maxRecDepth 100000 in
theorem r_L_law_209 {d : Nat} {ls : List (Option Value)} {st : List Value} {h : j_H} {Q : Option Value → j_H → Prop} {a b : Int32} : WP d mL_law 209 (ls) (.int b :: .int a :: st) h Q = (if a = b then WP d mL_law 794 (ls) (st) h Q else WP d mL_law 212 (ls) (st) h Q) := w_iceq (show j_ins mL_law 209 = some (36, 212, 794, 0, 585, 0, 0) from rfl)
set_option maxRecDepth 100000 in
theorem r_L_law_212 {d : Nat} {ls : List (Option Value)} {st : List Value} {h : j_H} {Q : Option Value → j_H → Prop} : WP d mL_law 212 (ls) (st) h Q = WP d mL_law 213 (ls) (.int (nI 0) :: st) h Q := w_pushi (show j_ins mL_law 212 = some (6, 213, 0, 0, 0, 0, 0) from rfl) (by decide +kernel)
set_option maxRecDepth 100000 in
theorem r_L_law_213 {d : Nat} {ls : List (Option Value)} {h : j_H} {Q : Option Value → j_H → Prop} {v : Bool} : WP d mL_law 213 ls [.int (bI v)] h Q = Q (some (.int (bI v))) h := w_zret (show j_ins mL_law 213 = some (65, 214, 0, 0, 1, 0, 0) from rfl) (bI_01 v)
set_option maxRecDepth 100000 in
theorem r_L_law_213_0 {d : Nat} {ls : List (Option Value)} {h : j_H} {Q : Option Value → j_H → Prop} : WP d mL_law 213 ls [.int (nI 0)] h Q = Q (some (.int (bI false))) h := w_zret (show j_ins mL_law 213 = some (65, 214, 0, 0, 1, 0, 0) from rfl) (Or.inl rfl)
set_option maxRecDepth 100000 in
theorem r_L_law_213_1 {d : Nat} {ls : List (Option Value)} {h : j_H} {Q : Option Value → j_H → Prop} : WP d mL_law 213 ls [.int (nI 1)] h Q = Q (some (.int (bI true))) h := w_zret (show j_ins mL_law 213 = some (65, 214, 0, 0, 1, 0, 0) from rfl) (Or.inr rfl)
set_option maxRecDepth 100000 in
theorem r_L_law_214 {d : Nat} {ls : List (Option Value)} {st : List Value} {h : j_H} {Q : Option Value → j_H → Prop} {l0 : Option Value} {v : Nat} : WP d mL_law 214 (l0 :: some (.ref v) :: ls) (st) h Q = WP d mL_law 215 (l0 :: some (.ref v) :: ls) (.ref v :: st) h Q := w_aload (show j_ins mL_law 214 = some (2, 215, 1, 0, 0, 0, 0) from rfl) rfl
set_option maxRecDepth 100000 in
theorem r_L_law_215 {d : Nat} {ls : List (Option Value)} {st : List Value} {h : j_H} {Q : Option Value → j_H → Prop} {v : Nat} : WP d mL_law 215 (some (.ref v) :: ls) (st) h Q = WP d mL_law 216 (some (.ref v) :: ls) (.ref v :: st) h Q := w_aload (show j_ins mL_law 215 = some (2, 216, 0, 0, 0, 0, 0) from rfl) rfl
set_option maxRecDepth 100000 in
theorem r_L_law_216 {d : Nat} {ls : List (Option Value)} {st : List Value} {h : j_H} {Q : Option Value → j_H → Prop} {l0 l1 l2 : Option Value} {v : Int32} : WP d mL_law 216 (l0 :: l1 :: l2 :: some (.int v) :: ls) (st) h Q = WP d mL_law 217 (l0 :: l1 :: l2 :: some (.int v) :: ls) (.int v :: st) h Q := w_iload (show j_ins mL_law 216 = some (0, 217, 3, 0, 0, 0, 0) from rfl) rfl
set_option maxRecDepth 100000 in
theorem r_L_law_217 {d : Nat} {ls : List (Option Value)} {st : List Value} {h : j_H} {Q : Option Value → j_H → Prop} : WP d mL_law 217 (ls) (st) h Q = WP d mL_law 218 (ls) (.int (nI 1) :: st) h Q := w_pushi (show j_ins mL_law 217 = some (6, 218, 0, 0, 1, 0, 0) from rfl) (by decide +kernel)
set_option maxRecDepth 100000 in
theorem r_L_law_218 {d : Nat} {ls : List (Option Value)} {st : List Value} {h : j_H} {Q : Option Value → j_H → Prop} {a b : Int32} : WP d mL_law 218 (ls) (.int b :: .int a :: st) h Q = WP d mL_law 219 (ls) (.int (a + b) :: st) h Q := w_iadd (show j_ins mL_law 218 = some (9, 219, 0, 0, 0, 0, 0) from rfl)
set_option maxRecDepth 100000 in
theorem r_L_law_219 {d : Nat} {ls : List (Option Value)} {st : List Value} {h : j_H} {Q : Option Value → j_H → Prop} {a : Nat} {i : Int32} : WP d mL_law 219 (ls) (.int i :: .ref a :: st) h Q = gI (hg h a) i (fun v => WP d mL_law 220 (ls) (.int v :: st) h Q) := w_iald (show j_ins mL_law 219 = some (49, 220, 0, 0, 0, 0, 0) from rfl)
set_option maxRecDepth 100000 in
theorem r_L_law_220 {d : Nat} {ls : List (Option Value)} {st : List Value} {h : j_H} {Q : Option Value → j_H → Prop} {v : Nat} : WP d mL_law 220 (some (.ref v) :: ls) (st) h Q = WP d mL_law 221 (some (.ref v) :: ls) (.ref v :: st) h Q := w_aload (show j_ins mL_law 220 = some (2, 221, 0, 0, 0, 0, 0) from rfl) rfl
set_option maxRecDepth 100000 in
theorem r_L_law_221 {d : Nat} {ls : List (Option Value)} {st : List Value} {h : j_H} {Q : Option Value → j_H → Prop} {l0 l1 l2 : Option Value} {v : Int32} : WP d mL_law 221 (l0 :: l1 :: l2 :: some (.int v) :: ls) (st) h Q = WP d mL_law 222 (l0 :: l1 :: l2 :: some (.int v) :: ls) (.int v :: st) h Q := w_iload (show j_ins mL_law 221 = some (0, 222, 3, 0, 0, 0, 0) from rfl) rfl
set_option maxRecDepth 100000 in
theorem r_L_law_222 {d : Nat} {ls : List (Option Value)} {st : List Value} {h : j_H} {Q : Option Value → j_H → Prop} : WP d mL_law 222 (ls) (st) h Q = WP d mL_law 223 (ls) (.int (nI 2) :: st) h Q := w_pushi (show j_ins mL_law 222 = some (6, 223, 0, 0, 2, 0, 0) from rfl) (by decide +kernel)
set_option maxRecDepth 100000 in
theorem r_L_law_223 {d : Nat} {ls : List (Option Value)} {st : List Value} {h : j_H} {Q : Option Value → j_H → Prop} {a b : Int32} : WP d mL_law 223 (ls) (.int b :: .int a :: st) h Q = WP d mL_law 224 (ls) (.int (a + b) :: st) h Q := w_iadd (show j_ins mL_law 223 = some (9, 224, 0, 0, 0, 0, 0) from rfl)
set_option maxRecDepth 100000 in
theorem r_L_law_224 {d : Nat} {ls : List (Option Value)} {st : List Value} {h : j_H} {Q : Option Value → j_H → Prop} {a : Nat} {i : Int32} : WP d mL_law 224 (ls) (.int i :: .ref a :: st) h Q = gI (hg h a) i (fun v => WP d mL_law 225 (ls) (.int v :: st) h Q) := w_iald (show j_ins mL_law 224 = some (49, 225, 0, 0, 0, 0, 0) from rfl)
set_option maxRecDepth 100000 in
theorem r_L_law_225 {d : Nat} {ls : List (Option Value)} {h : j_H} {Q : Option Value → j_H → Prop} {a0 : Nat} {a1 : Int32} {a2 : Int32} : WP (d + 1) mL_law 225 ls [.int a2, .int a1, .ref a0] h Q = gO (hg h a0) 10 (WP d mX10_cell 0 [some (.ref a0), some (.int a1), some (.int a2)] [] h (fun v h1 => WP (d + 1) mL_law 228 ls (pu v []) h1 Q)) := w_vir (k := 62) (ci := 10) (Or.inl rfl) (show j_ins mL_law 225 = some (62, 228, mX10_cell, 2, 10, 23, 399) from rfl) rfl rfl rfl (Nat.le_of_ble_eq_true rfl) (Nat.le_of_ble_eq_true rfl) rfl
set_option maxRecDepth 100000 in
theorem r_L_law_228 {d : Nat} {ls : List (Option Value)} {st : List Value} {h : j_H} {Q : Option Value → j_H → Prop} {l0 l1 : Option Value} {v : Nat} : WP d mL_law 228 (l0 :: l1 :: some (.ref v) :: ls) (st) h Q = WP d mL_law 229 (l0 :: l1 :: some (.ref v) :: ls) (.ref v :: st) h Q := w_aload (show j_ins mL_law 228 = some (2, 229, 2, 0, 0, 0, 0) from rfl) rfl
set_option maxRecDepth 100000 in
theorem r_L_law_229 {d : Nat} {ls : List (Option Value)} {st : List Value} {h : j_H} {Q : Option Value → j_H → Prop} {v : Nat} : WP d mL_law 229 (some (.ref v) :: ls) (st) h Q = WP d mL_law 230 (some (.ref v) :: ls) (.ref v :: st) h Q := w_aload (show j_ins mL_law 229 = some (2, 230, 0, 0, 0, 0, 0) from rfl) rfl
set_option maxRecDepth 100000 in
theorem r_L_law_230 {d : Nat} {ls : List (Option Value)} {st : List Value} {h : j_H} {Q : Option Value → j_H → Prop} {l0 l1 l2 : Option Value} {v : Int32} : WP d mL_law 230 (l0 :: l1 :: l2 :: some (.int v) :: ls) (st) h Q = WP d mL_law 231 (l0 :: l1 :: l2 :: some (.int v) :: ls) (.int v :: st) h Q := w_iload (show j_ins mL_law 230 = some (0, 231, 3, 0, 0, 0, 0) from rfl) rfl
set_option maxRecDepth 100000 in
theorem r_L_law_231 {d : Nat} {ls : List (Option Value)} {st : List Value} {h : j_H} {Q : Option Value → j_H → Prop} : WP d mL_law 231 (ls) (st) h Q = WP d mL_law 232 (ls) (.int (nI 1) :: st) h Q := w_pushi (show j_ins mL_law 231 = some (6, 232, 0, 0, 1, 0, 0) from rfl) (by decide +kernel)
set_option maxRecDepth 100000 in
theorem r_L_law_232 {d : Nat} {ls : List (Option Value)} {st : List Value} {h : j_H} {Q : Option Value → j_H → Prop} {a b : Int32} : WP d mL_law 232 (ls) (.int b :: .int a :: st) h Q = WP d mL_law 233 (ls) (.int (a + b) :: st) h Q := w_iadd (show j_ins mL_law 232 = some (9, 233, 0, 0, 0, 0, 0) from rfl)
set_option maxRecDepth 100000 in
theorem r_L_law_233 {d : Nat} {ls : List (Option Value)} {st : List Value} {h : j_H} {Q : Option Value → j_H → Prop} {a : Nat} {i : Int32} : WP d mL_law 233 (ls) (.int i :: .ref a :: st) h Q = gI (hg h a) i (fun v => WP d mL_law 234 (ls) (.int v :: st) h Q) := w_iald (show j_ins mL_law 233 = some (49, 234, 0, 0, 0, 0, 0) from rfl)
set_option maxRecDepth 100000 in
theorem r_L_law_234 {d : Nat} {ls : List (Option Value)} {st : List Value} {h : j_H} {Q : Option Value → j_H → Prop} {v : Nat} : WP d mL_law 234 (some (.ref v) :: ls) (st) h Q = WP d mL_law 235 (some (.ref v) :: ls) (.ref v :: st) h Q := w_aload (show j_ins mL_law 234 = some (2, 235, 0, 0, 0, 0, 0) from rfl) rfl
set_option maxRecDepth 100000 in
theorem r_L_law_235 {d : Nat} {ls : List (Option Value)} {st : List Value} {h : j_H} {Q : Option Value → j_H → Prop} {l0 l1 l2 : Option Value} {v : Int32} : WP d mL_law 235 (l0 :: l1 :: l2 :: some (.int v) :: ls) (st) h Q = WP d mL_law 236 (l0 :: l1 :: l2 :: some (.int v) :: ls) (.int v :: st) h Q := w_iload (show j_ins mL_law 235 = some (0, 236, 3, 0, 0, 0, 0) from rfl) rfl
set_option maxRecDepth 100000 in
theorem r_L_law_236 {d : Nat} {ls : List (Option Value)} {st : List Value} {h : j_H} {Q : Option Value → j_H → Prop} : WP d mL_law 236 (ls) (st) h Q = WP d mL_law 237 (ls) (.int (nI 2) :: st) h Q := w_pushi (show j_ins mL_law 236 = some (6, 237, 0, 0, 2, 0, 0) from rfl) (by decide +kernel)
set_option maxRecDepth 100000 in
theorem r_L_law_237 {d : Nat} {ls : List (Option Value)} {st : List Value} {h : j_H} {Q : Option Value → j_H → Prop} {a b : Int32} : WP d mL_law 237 (ls) (.int b :: .int a :: st) h Q = WP d mL_law 238 (ls) (.int (a + b) :: st) h Q := w_iadd (show j_ins mL_law 237 = some (9, 238, 0, 0, 0, 0, 0) from rfl)
set_option maxRecDepth 100000 in
theorem r_L_law_238 {d : Nat} {ls : List (Option Value)} {st : List Value} {h : j_H} {Q : Option Value → j_H → Prop} {a : Nat} {i : Int32} : WP d mL_law 238 (ls) (.int i :: .ref a :: st) h Q = gI (hg h a) i (fun v => WP d mL_law 239 (ls) (.int v :: st) h Q) := w_iald (show j_ins mL_law 238 = some (49, 239, 0, 0, 0, 0, 0) from rfl)
set_option maxRecDepth 100000 in
theorem r_L_law_239 {d : Nat} {ls : List (Option Value)} {h : j_H} {Q : Option Value → j_H → Prop} {u0 : Value} {a0 : Nat} {a1 : Int32} {a2 : Int32} : WP (d + 1) mL_law 239 ls [.int a2, .int a1, .ref a0, u0] h Q = gO (hg h a0) 11 (WP d mX11_cell 0 [some (.ref a0), some (.int a1), some (.int a2)] [] h (fun v h1 => WP (d + 1) mL_law 242 ls (pu v [u0]) h1 Q)) := w_vir (k := 62) (ci := 11) (Or.inl rfl) (show j_ins mL_law 239 = some (62, 242, mX11_cell, 2, 11, 27, 844) from rfl) rfl rfl rfl (Nat.le_of_ble_eq_true rfl) (Nat.le_of_ble_eq_true rfl) rfl
set_option maxRecDepth 100000 in
theorem r_L_law_242 {d : Nat} {ls : List (Option Value)} {st : List Value} {h : j_H} {Q : Option Value → j_H → Prop} {a b : Int32} : WP d mL_law 242 (ls) (.int b :: .int a :: st) h Q = (if a = b then WP d mL_law 794 (ls) (st) h Q else WP d mL_law 245 (ls) (st) h Q) := w_iceq (show j_ins mL_law 242 = some (36, 245, 794, 0, 552, 0, 0) from rfl)
set_option maxRecDepth 100000 in
theorem r_L_law_245 {d : Nat} {ls : List (Option Value)} {st : List Value} {h : j_H} {Q : Option Value → j_H → Prop} : WP d mL_law 245 (ls) (st) h Q = WP d mL_law 246 (ls) (.int (nI 0) :: st) h Q := w_pushi (show j_ins mL_law 245 = some (6, 246, 0, 0, 0, 0, 0) from rfl) (by decide +kernel)
set_option maxRecDepth 100000 in
theorem r_L_law_246 {d : Nat} {ls : List (Option Value)} {h : j_H} {Q : Option Value → j_H → Prop} {v : Bool} : WP d mL_law 246 ls [.int (bI v)] h Q = Q (some (.int (bI v))) h := w_zret (show j_ins mL_law 246 = some (65, 247, 0, 0, 1, 0, 0) from rfl) (bI_01 v)
set_option maxRecDepth 100000 in
theorem r_L_law_246_0 {d : Nat} {ls : List (Option Value)} {h : j_H} {Q : Option Value → j_H → Prop} : WP d mL_law 246 ls [.int (nI 0)] h Q = Q (some (.int (bI false))) h := w_zret (show j_ins mL_law 246 = some (65, 247, 0, 0, 1, 0, 0) from rfl) (Or.inl rfl)
set_option maxRecDepth 100000 in
theorem r_L_law_246_1 {d : Nat} {ls : List (Option Value)} {h : j_H} {Q : Option Value → j_H → Prop} : WP d mL_law 246 ls [.int (nI 1)] h Q = Q (some (.int (bI true))) h := w_zret (show j_ins mL_law 246 = some (65, 247, 0, 0, 1, 0, 0) from rfl) (Or.inr rfl)
set_option maxRecDepth 100000 in
theorem r_L_law_247 {d : Nat} {ls : List (Option Value)} {st : List Value} {h : j_H} {Q : Option Value → j_H → Prop} {l0 : Option Value} {v : Nat} : WP d mL_law 247 (l0 :: some (.ref v) :: ls) (st) h Q = WP d mL_law 248 (l0 :: some (.ref v) :: ls) (.ref v :: st) h Q := w_aload (show j_ins mL_law 247 = some (2, 248, 1, 0, 0, 0, 0) from rfl) rfl
set_option maxRecDepth 100000 in
theorem r_L_law_248 {d : Nat} {ls : List (Option Value)} {st : List Value} {h : j_H} {Q : Option Value → j_H → Prop} {v : Nat} : WP d mL_law 248 (some (.ref v) :: ls) (st) h Q = WP d mL_law 249 (some (.ref v) :: ls) (.ref v :: st) h Q := w_aload (show j_ins mL_law 248 = some (2, 249, 0, 0, 0, 0, 0) from rfl) rfl
set_option maxRecDepth 100000 in
theorem r_L_law_249 {d : Nat} {ls : List (Option Value)} {st : List Value} {h : j_H} {Q : Option Value → j_H → Prop} {l0 l1 l2 : Option Value} {v : Int32} : WP d mL_law 249 (l0 :: l1 :: l2 :: some (.int v) :: ls) (st) h Q = WP d mL_law 250 (l0 :: l1 :: l2 :: some (.int v) :: ls) (.int v :: st) h Q := w_iload (show j_ins mL_law 249 = some (0, 250, 3, 0, 0, 0, 0) from rfl) rfl
set_option maxRecDepth 100000 in
theorem r_L_law_250 {d : Nat} {ls : List (Option Value)} {st : List Value} {h : j_H} {Q : Option Value → j_H → Prop} : WP d mL_law 250 (ls) (st) h Q = WP d mL_law 251 (ls) (.int (nI 1) :: st) h Q := w_pushi (show j_ins mL_law 250 = some (6, 251, 0, 0, 1, 0, 0) from rfl) (by decide +kernel)
set_option maxRecDepth 100000 in
theorem r_L_law_251 {d : Nat} {ls : List (Option Value)} {st : List Value} {h : j_H} {Q : Option Value → j_H → Prop} {a b : Int32} : WP d mL_law 251 (ls) (.int b :: .int a :: st) h Q = WP d mL_law 252 (ls) (.int (a + b) :: st) h Q := w_iadd (show j_ins mL_law 251 = some (9, 252, 0, 0, 0, 0, 0) from rfl)
set_option maxRecDepth 100000 in
theorem r_L_law_252 {d : Nat} {ls : List (Option Value)} {st : List Value} {h : j_H} {Q : Option Value → j_H → Prop} {a : Nat} {i : Int32} : WP d mL_law 252 (ls) (.int i :: .ref a :: st) h Q = gI (hg h a) i (fun v => WP d mL_law 253 (ls) (.int v :: st) h Q) := w_iald (show j_ins mL_law 252 = some (49, 253, 0, 0, 0, 0, 0) from rfl)
set_option maxRecDepth 100000 in
theorem r_L_law_253 {d : Nat} {ls : List (Option Value)} {st : List Value} {h : j_H} {Q : Option Value → j_H → Prop} {v : Nat} : WP d mL_law 253 (some (.ref v) :: ls) (st) h Q = WP d mL_law 254 (some (.ref v) :: ls) (.ref v :: st) h Q := w_aload (show j_ins mL_law 253 = some (2, 254, 0, 0, 0, 0, 0) from rfl) rfl
set_option maxRecDepth 100000 in
theorem r_L_law_254 {d : Nat} {ls : List (Option Value)} {st : List Value} {h : j_H} {Q : Option Value → j_H → Prop} {l0 l1 l2 : Option Value} {v : Int32} : WP d mL_law 254 (l0 :: l1 :: l2 :: some (.int v) :: ls) (st) h Q = WP d mL_law 255 (l0 :: l1 :: l2 :: some (.int v) :: ls) (.int v :: st) h Q := w_iload (show j_ins mL_law 254 = some (0, 255, 3, 0, 0, 0, 0) from rfl) rfl
set_option maxRecDepth 100000 in
theorem r_L_law_255 {d : Nat} {ls : List (Option Value)} {st : List Value} {h : j_H} {Q : Option Value → j_H → Prop} : WP d mL_law 255 (ls) (st) h Q = WP d mL_law 256 (ls) (.int (nI 2) :: st) h Q := w_pushi (show j_ins mL_law 255 = some (6, 256, 0, 0, 2, 0, 0) from rfl) (by decide +kernel)
set_option maxRecDepth 100000 in
theorem r_L_law_256 {d : Nat} {ls : List (Option Value)} {st : List Value} {h : j_H} {Q : Option Value → j_H → Prop} {a b : Int32} : WP d mL_law 256 (ls) (.int b :: .int a :: st) h Q = WP d mL_law 257 (ls) (.int (a + b) :: st) h Q := w_iadd (show j_ins mL_law 256 = some (9, 257, 0, 0, 0, 0, 0) from rfl)
set_option maxRecDepth 100000 in
theorem r_L_law_257 {d : Nat} {ls : List (Option Value)} {st : List Value} {h : j_H} {Q : Option Value → j_H → Prop} {a : Nat} {i : Int32} : WP d mL_law 257 (ls) (.int i :: .ref a :: st) h Q = gI (hg h a) i (fun v => WP d mL_law 258 (ls) (.int v :: st) h Q) := w_iald (show j_ins mL_law 257 = some (49, 258, 0, 0, 0, 0, 0) from rfl)
set_option maxRecDepth 100000 in
theorem r_L_law_258 {d : Nat} {ls : List (Option Value)} {h : j_H} {Q : Option Value → j_H → Prop} {a0 : Nat} {a1 : Int32} {a2 : Int32} : WP (d + 1) mL_law 258 ls [.int a2, .int a1, .ref a0] h Q = gO (hg h a0) 10 (WP d mX10_side 0 [some (.ref a0), some (.int a1), some (.int a2), none] [] h (fun v h1 => WP (d + 1) mL_law 261 ls (pu v []) h1 Q)) := w_vir (k := 62) (ci := 10) (Or.inl rfl) (show j_ins mL_law 258 = some (62, 261, mX10_side, 2, 10, 28, 403) from rfl) rfl rfl rfl (Nat.le_of_ble_eq_true rfl) (Nat.le_of_ble_eq_true rfl) rfl
set_option maxRecDepth 100000 in
theorem r_L_law_261 {d : Nat} {ls : List (Option Value)} {st : List Value} {h : j_H} {Q : Option Value → j_H → Prop} {l0 l1 : Option Value} {v : Nat} : WP d mL_law 261 (l0 :: l1 :: some (.ref v) :: ls) (st) h Q = WP d mL_law 262 (l0 :: l1 :: some (.ref v) :: ls) (.ref v :: st) h Q := w_aload (show j_ins mL_law 261 = some (2, 262, 2, 0, 0, 0, 0) from rfl) rfl
set_option maxRecDepth 100000 in
theorem r_L_law_262 {d : Nat} {ls : List (Option Value)} {st : List Value} {h : j_H} {Q : Option Value → j_H → Prop} {v : Nat} : WP d mL_law 262 (some (.ref v) :: ls) (st) h Q = WP d mL_law 263 (some (.ref v) :: ls) (.ref v :: st) h Q := w_aload (show j_ins mL_law 262 = some (2, 263, 0, 0, 0, 0, 0) from rfl) rfl
set_option maxRecDepth 100000 in
theorem r_L_law_263 {d : Nat} {ls : List (Option Value)} {st : List Value} {h : j_H} {Q : Option Value → j_H → Prop} {l0 l1 l2 : Option Value} {v : Int32} : WP d mL_law 263 (l0 :: l1 :: l2 :: some (.int v) :: ls) (st) h Q = WP d mL_law 264 (l0 :: l1 :: l2 :: some (.int v) :: ls) (.int v :: st) h Q := w_iload (show j_ins mL_law 263 = some (0, 264, 3, 0, 0, 0, 0) from rfl) rfl
set_option maxRecDepth 100000 in
theorem r_L_law_264 {d : Nat} {ls : List (Option Value)} {st : List Value} {h : j_H} {Q : Option Value → j_H → Prop} : WP d mL_law 264 (ls) (st) h Q = WP d mL_law 265 (ls) (.int (nI 1) :: st) h Q := w_pushi (show j_ins mL_law 264 = some (6, 265, 0, 0, 1, 0, 0) from rfl) (by decide +kernel)
set_option maxRecDepth 100000 in
theorem r_L_law_265 {d : Nat} {ls : List (Option Value)} {st : List Value} {h : j_H} {Q : Option Value → j_H → Prop} {a b : Int32} : WP d mL_law 265 (ls) (.int b :: .int a :: st) h Q = WP d mL_law 266 (ls) (.int (a + b) :: st) h Q := w_iadd (show j_ins mL_law 265 = some (9, 266, 0, 0, 0, 0, 0) from rfl)
set_option maxRecDepth 100000 in
theorem r_L_law_266 {d : Nat} {ls : List (Option Value)} {st : List Value} {h : j_H} {Q : Option Value → j_H → Prop} {a : Nat} {i : Int32} : WP d mL_law 266 (ls) (.int i :: .ref a :: st) h Q = gI (hg h a) i (fun v => WP d mL_law 267 (ls) (.int v :: st) h Q) := w_iald (show j_ins mL_law 266 = some (49, 267, 0, 0, 0, 0, 0) from rfl)
set_option maxRecDepth 100000 in
theorem r_L_law_267 {d : Nat} {ls : List (Option Value)} {st : List Value} {h : j_H} {Q : Option Value → j_H → Prop} {v : Nat} : WP d mL_law 267 (some (.ref v) :: ls) (st) h Q = WP d mL_law 268 (some (.ref v) :: ls) (.ref v :: st) h Q := w_aload (show j_ins mL_law 267 = some (2, 268, 0, 0, 0, 0, 0) from rfl) rfl
set_option maxRecDepth 100000 in
theorem r_L_law_268 {d : Nat} {ls : List (Option Value)} {st : List Value} {h : j_H} {Q : Option Value → j_H → Prop} {l0 l1 l2 : Option Value} {v : Int32} : WP d mL_law 268 (l0 :: l1 :: l2 :: some (.int v) :: ls) (st) h Q = WP d mL_law 269 (l0 :: l1 :: l2 :: some (.int v) :: ls) (.int v :: st) h Q := w_iload (show j_ins mL_law 268 = some (0, 269, 3, 0, 0, 0, 0) from rfl) rfl
set_option maxRecDepth 100000 in
theorem r_L_law_269 {d : Nat} {ls : List (Option Value)} {st : List Value} {h : j_H} {Q : Option Value → j_H → Prop} : WP d mL_law 269 (ls) (st) h Q = WP d mL_law 270 (ls) (.int (nI 2) :: st) h Q := w_pushi (show j_ins mL_law 269 = some (6, 270, 0, 0, 2, 0, 0) from rfl) (by decide +kernel)
set_option maxRecDepth 100000 in
theorem r_L_law_270 {d : Nat} {ls : List (Option Value)} {st : List Value} {h : j_H} {Q : Option Value → j_H → Prop} {a b : Int32} : WP d mL_law 270 (ls) (.int b :: .int a :: st) h Q = WP d mL_law 271 (ls) (.int (a + b) :: st) h Q := w_iadd (show j_ins mL_law 270 = some (9, 271, 0, 0, 0, 0, 0) from rfl)
set_option maxRecDepth 100000 in
theorem r_L_law_271 {d : Nat} {ls : List (Option Value)} {st : List Value} {h : j_H} {Q : Option Value → j_H → Prop} {a : Nat} {i : Int32} : WP d mL_law 271 (ls) (.int i :: .ref a :: st) h Q = gI (hg h a) i (fun v => WP d mL_law 272 (ls) (.int v :: st) h Q) := w_iald (show j_ins mL_law 271 = some (49, 272, 0, 0, 0, 0, 0) from rfl)
set_option maxRecDepth 100000 in
theorem r_L_law_272 {d : Nat} {ls : List (Option Value)} {h : j_H} {Q : Option Value → j_H → Prop} {u0 : Value} {a0 : Nat} {a1 : Int32} {a2 : Int32} : WP (d + 1) mL_law 272 ls [.int a2, .int a1, .ref a0, u0] h Q = gO (hg h a0) 11 (WP d mX11_side 0 [some (.ref a0), some (.int a1), some (.int a2), none] [] h (fun v h1 => WP (d + 1) mL_law 275 ls (pu v [u0]) h1 Q)) := w_vir (k := 62) (ci := 11) (Or.inl rfl) (show j_ins mL_law 272 = some (62, 275, mX11_side, 2, 11, 31, 848) from rfl) rfl rfl rfl (Nat.le_of_ble_eq_true rfl) (Nat.le_of_ble_eq_true rfl) rfl
set_option maxRecDepth 100000 in
theorem r_L_law_275 {d : Nat} {ls : List (Option Value)} {st : List Value} {h : j_H} {Q : Option Value → j_H → Prop} {a b : Int32} : WP d mL_law 275 (ls) (.int b :: .int a :: st) h Q = (if a = b then WP d mL_law 794 (ls) (st) h Q else WP d mL_law 278 (ls) (st) h Q) := w_iceq (show j_ins mL_law 275 = some (36, 278, 794, 0, 519, 0, 0) from rfl)
set_option maxRecDepth 100000 in
theorem r_L_law_278 {d : Nat} {ls : List (Option Value)} {st : List Value} {h : j_H} {Q : Option Value → j_H → Prop} : WP d mL_law 278 (ls) (st) h Q = WP d mL_law 279 (ls) (.int (nI 0) :: st) h Q := w_pushi (show j_ins mL_law 278 = some (6, 279, 0, 0, 0, 0, 0) from rfl) (by decide +kernel)
set_option maxRecDepth 100000 in
theorem r_L_law_279 {d : Nat} {ls : List (Option Value)} {h : j_H} {Q : Option Value → j_H → Prop} {v : Bool} : WP d mL_law 279 ls [.int (bI v)] h Q = Q (some (.int (bI v))) h := w_zret (show j_ins mL_law 279 = some (65, 280, 0, 0, 1, 0, 0) from rfl) (bI_01 v)
set_option maxRecDepth 100000 in
theorem r_L_law_279_0 {d : Nat} {ls : List (Option Value)} {h : j_H} {Q : Option Value → j_H → Prop} : WP d mL_law 279 ls [.int (nI 0)] h Q = Q (some (.int (bI false))) h := w_zret (show j_ins mL_law 279 = some (65, 280, 0, 0, 1, 0, 0) from rfl) (Or.inl rfl)
set_option maxRecDepth 100000 in
theorem r_L_law_279_1 {d : Nat} {ls : List (Option Value)} {h : j_H} {Q : Option Value → j_H → Prop} : WP d mL_law 279 ls [.int (nI 1)] h Q = Q (some (.int (bI true))) h := w_zret (show j_ins mL_law 279 = some (65, 280, 0, 0, 1, 0, 0) from rfl) (Or.inr rfl)
set_option maxRecDepth 100000 in
theorem r_L_law_280 {d : Nat} {ls : List (Option Value)} {st : List Value} {h : j_H} {Q : Option Value → j_H → Prop} {l0 : Option Value} {v : Nat} : WP d mL_law 280 (l0 :: some (.ref v) :: ls) (st) h Q = WP d mL_law 281 (l0 :: some (.ref v) :: ls) (.ref v :: st) h Q := w_aload (show j_ins mL_law 280 = some (2, 281, 1, 0, 0, 0, 0) from rfl) rfl
set_option maxRecDepth 100000 in
theorem r_L_law_281 {d : Nat} {ls : List (Option Value)} {st : List Value} {h : j_H} {Q : Option Value → j_H → Prop} {v : Nat} : WP d mL_law 281 (some (.ref v) :: ls) (st) h Q = WP d mL_law 282 (some (.ref v) :: ls) (.ref v :: st) h Q := w_aload (show j_ins mL_law 281 = some (2, 282, 0, 0, 0, 0, 0) from rfl) rfl
set_option maxRecDepth 100000 in
theorem r_L_law_282 {d : Nat} {ls : List (Option Value)} {st : List Value} {h : j_H} {Q : Option Value → j_H → Prop} {l0 l1 l2 : Option Value} {v : Int32} : WP d mL_law 282 (l0 :: l1 :: l2 :: some (.int v) :: ls) (st) h Q = WP d mL_law 283 (l0 :: l1 :: l2 :: some (.int v) :: ls) (.int v :: st) h Q := w_iload (show j_ins mL_law 282 = some (0, 283, 3, 0, 0, 0, 0) from rfl) rfl
set_option maxRecDepth 100000 in
theorem r_L_law_283 {d : Nat} {ls : List (Option Value)} {st : List Value} {h : j_H} {Q : Option Value → j_H → Prop} : WP d mL_law 283 (ls) (st) h Q = WP d mL_law 284 (ls) (.int (nI 1) :: st) h Q := w_pushi (show j_ins mL_law 283 = some (6, 284, 0, 0, 1, 0, 0) from rfl) (by decide +kernel)
set_option maxRecDepth 100000 in
theorem r_L_law_284 {d : Nat} {ls : List (Option Value)} {st : List Value} {h : j_H} {Q : Option Value → j_H → Prop} {a b : Int32} : WP d mL_law 284 (ls) (.int b :: .int a :: st) h Q = WP d mL_law 285 (ls) (.int (a + b) :: st) h Q := w_iadd (show j_ins mL_law 284 = some (9, 285, 0, 0, 0, 0, 0) from rfl)
set_option maxRecDepth 100000 in
theorem r_L_law_285 {d : Nat} {ls : List (Option Value)} {st : List Value} {h : j_H} {Q : Option Value → j_H → Prop} {a : Nat} {i : Int32} : WP d mL_law 285 (ls) (.int i :: .ref a :: st) h Q = gI (hg h a) i (fun v => WP d mL_law 286 (ls) (.int v :: st) h Q) := w_iald (show j_ins mL_law 285 = some (49, 286, 0, 0, 0, 0, 0) from rfl)
set_option maxRecDepth 100000 in
theorem r_L_law_286 {d : Nat} {ls : List (Option Value)} {h : j_H} {Q : Option Value → j_H → Prop} {a0 : Nat} {a1 : Int32} : WP (d + 1) mL_law 286 ls [.int a1, .ref a0] h Q = gO (hg h a0) 10 (WP d mX10_count 0 [some (.ref a0), some (.int a1)] [] h (fun v h1 => WP (d + 1) mL_law 289 ls (pu v []) h1 Q)) := w_vir (k := 62) (ci := 10) (Or.inl rfl) (show j_ins mL_law 286 = some (62, 289, mX10_count, 1, 10, 32, 407) from rfl) rfl rfl rfl (Nat.le_of_ble_eq_true rfl) (Nat.le_of_ble_eq_true rfl) rfl
set_option maxRecDepth 100000 in
theorem r_L_law_289 {d : Nat} {ls : List (Option Value)} {st : List Value} {h : j_H} {Q : Option Value → j_H → Prop} {l0 l1 : Option Value} {v : Nat} : WP d mL_law 289 (l0 :: l1 :: some (.ref v) :: ls) (st) h Q = WP d mL_law 290 (l0 :: l1 :: some (.ref v) :: ls) (.ref v :: st) h Q := w_aload (show j_ins mL_law 289 = some (2, 290, 2, 0, 0, 0, 0) from rfl) rfl
set_option maxRecDepth 100000 in
theorem r_L_law_290 {d : Nat} {ls : List (Option Value)} {st : List Value} {h : j_H} {Q : Option Value → j_H → Prop} {v : Nat} : WP d mL_law 290 (some (.ref v) :: ls) (st) h Q = WP d mL_law 291 (some (.ref v) :: ls) (.ref v :: st) h Q := w_aload (show j_ins mL_law 290 = some (2, 291, 0, 0, 0, 0, 0) from rfl) rfl
set_option maxRecDepth 100000 in
theorem r_L_law_291 {d : Nat} {ls : List (Option Value)} {st : List Value} {h : j_H} {Q : Option Value → j_H → Prop} {l0 l1 l2 : Option Value} {v : Int32} : WP d mL_law 291 (l0 :: l1 :: l2 :: some (.int v) :: ls) (st) h Q = WP d mL_law 292 (l0 :: l1 :: l2 :: some (.int v) :: ls) (.int v :: st) h Q := w_iload (show j_ins mL_law 291 = some (0, 292, 3, 0, 0, 0, 0) from rfl) rfl
set_option maxRecDepth 100000 in
theorem r_L_law_292 {d : Nat} {ls : List (Option Value)} {st : List Value} {h : j_H} {Q : Option Value → j_H → Prop} : WP d mL_law 292 (ls) (st) h Q = WP d mL_law 293 (ls) (.int (nI 1) :: st) h Q := w_pushi (show j_ins mL_law 292 = some (6, 293, 0, 0, 1, 0, 0) from rfl) (by decide +kernel)
set_option maxRecDepth 100000 in
theorem r_L_law_293 {d : Nat} {ls : List (Option Value)} {st : List Value} {h : j_H} {Q : Option Value → j_H → Prop} {a b : Int32} : WP d mL_law 293 (ls) (.int b :: .int a :: st) h Q = WP d mL_law 294 (ls) (.int (a + b) :: st) h Q := w_iadd (show j_ins mL_law 293 = some (9, 294, 0, 0, 0, 0, 0) from rfl)
set_option maxRecDepth 100000 in
theorem r_L_law_294 {d : Nat} {ls : List (Option Value)} {st : List Value} {h : j_H} {Q : Option Value → j_H → Prop} {a : Nat} {i : Int32} : WP d mL_law 294 (ls) (.int i :: .ref a :: st) h Q = gI (hg h a) i (fun v => WP d mL_law 295 (ls) (.int v :: st) h Q) := w_iald (show j_ins mL_law 294 = some (49, 295, 0, 0, 0, 0, 0) from rfl)
set_option maxRecDepth 100000 in
theorem r_L_law_295 {d : Nat} {ls : List (Option Value)} {h : j_H} {Q : Option Value → j_H → Prop} {u0 : Value} {a0 : Nat} {a1 : Int32} : WP (d + 1) mL_law 295 ls [.int a1, .ref a0, u0] h Q = gO (hg h a0) 11 (WP d mX11_count 0 [some (.ref a0), some (.int a1)] [] h (fun v h1 => WP (d + 1) mL_law 298 ls (pu v [u0]) h1 Q)) := w_vir (k := 62) (ci := 11) (Or.inl rfl) (show j_ins mL_law 295 = some (62, 298, mX11_count, 1, 11, 35, 852) from rfl) rfl rfl rfl (Nat.le_of_ble_eq_true rfl) (Nat.le_of_ble_eq_true rfl) rfl
set_option maxRecDepth 100000 in
theorem r_L_law_298 {d : Nat} {ls : List (Option Value)} {st : List Value} {h : j_H} {Q : Option Value → j_H → Prop} {a b : Int32} : WP d mL_law 298 (ls) (.int b :: .int a :: st) h Q = (if a = b then WP d mL_law 794 (ls) (st) h Q else WP d mL_law 301 (ls) (st) h Q) := w_iceq (show j_ins mL_law 298 = some (36, 301, 794, 0, 496, 0, 0) from rfl)
set_option maxRecDepth 100000 in
theorem r_L_law_301 {d : Nat} {ls : List (Option Value)} {st : List Value} {h : j_H} {Q : Option Value → j_H → Prop} : WP d mL_law 301 (ls) (st) h Q = WP d mL_law 302 (ls) (.int (nI 0) :: st) h Q := w_pushi (show j_ins mL_law 301 = some (6, 302, 0, 0, 0, 0, 0) from rfl) (by decide +kernel)
set_option maxRecDepth 100000 in
theorem r_L_law_302 {d : Nat} {ls : List (Option Value)} {h : j_H} {Q : Option Value → j_H → Prop} {v : Bool} : WP d mL_law 302 ls [.int (bI v)] h Q = Q (some (.int (bI v))) h := w_zret (show j_ins mL_law 302 = some (65, 303, 0, 0, 1, 0, 0) from rfl) (bI_01 v)
set_option maxRecDepth 100000 in
theorem r_L_law_302_0 {d : Nat} {ls : List (Option Value)} {h : j_H} {Q : Option Value → j_H → Prop} : WP d mL_law 302 ls [.int (nI 0)] h Q = Q (some (.int (bI false))) h := w_zret (show j_ins mL_law 302 = some (65, 303, 0, 0, 1, 0, 0) from rfl) (Or.inl rfl)
set_option maxRecDepth 100000 in
theorem r_L_law_302_1 {d : Nat} {ls : List (Option Value)} {h : j_H} {Q : Option Value → j_H → Prop} : WP d mL_law 302 ls [.int (nI 1)] h Q = Q (some (.int (bI true))) h := w_zret (show j_ins mL_law 302 = some (65, 303, 0, 0, 1, 0, 0) from rfl) (Or.inr rfl)
set_option maxRecDepth 100000 in
theorem r_L_law_303 {d : Nat} {ls : List (Option Value)} {st : List Value} {h : j_H} {Q : Option Value → j_H → Prop} {l0 : Option Value} {v : Nat} : WP d mL_law 303 (l0 :: some (.ref v) :: ls) (st) h Q = WP d mL_law 304 (l0 :: some (.ref v) :: ls) (.ref v :: st) h Q := w_aload (show j_ins mL_law 303 = some (2, 304, 1, 0, 0, 0, 0) from rfl) rfl
set_option maxRecDepth 100000 in
theorem r_L_law_304 {d : Nat} {ls : List (Option Value)} {st : List Value} {h : j_H} {Q : Option Value → j_H → Prop} {v : Nat} : WP d mL_law 304 (some (.ref v) :: ls) (st) h Q = WP d mL_law 305 (some (.ref v) :: ls) (.ref v :: st) h Q := w_aload (show j_ins mL_law 304 = some (2, 305, 0, 0, 0, 0, 0) from rfl) rfl
set_option maxRecDepth 100000 in
theorem r_L_law_305 {d : Nat} {ls : List (Option Value)} {st : List Value} {h : j_H} {Q : Option Value → j_H → Prop} {l0 l1 l2 : Option Value} {v : Int32} : WP d mL_law 305 (l0 :: l1 :: l2 :: some (.int v) :: ls) (st) h Q = WP d mL_law 306 (l0 :: l1 :: l2 :: some (.int v) :: ls) (.int v :: st) h Q := w_iload (show j_ins mL_law 305 = some (0, 306, 3, 0, 0, 0, 0) from rfl) rfl
set_option maxRecDepth 100000 in
theorem r_L_law_306 {d : Nat} {ls : List (Option Value)} {st : List Value} {h : j_H} {Q : Option Value → j_H → Prop} : WP d mL_law 306 (ls) (st) h Q = WP d mL_law 307 (ls) (.int (nI 1) :: st) h Q := w_pushi (show j_ins mL_law 306 = some (6, 307, 0, 0, 1, 0, 0) from rfl) (by decide +kernel)
set_option maxRecDepth 100000 in
theorem r_L_law_307 {d : Nat} {ls : List (Option Value)} {st : List Value} {h : j_H} {Q : Option Value → j_H → Prop} {a b : Int32} : WP d mL_law 307 (ls) (.int b :: .int a :: st) h Q = WP d mL_law 308 (ls) (.int (a + b) :: st) h Q := w_iadd (show j_ins mL_law 307 = some (9, 308, 0, 0, 0, 0, 0) from rfl)
set_option maxRecDepth 100000 in
theorem r_L_law_308 {d : Nat} {ls : List (Option Value)} {st : List Value} {h : j_H} {Q : Option Value → j_H → Prop} {a : Nat} {i : Int32} : WP d mL_law 308 (ls) (.int i :: .ref a :: st) h Q = gI (hg h a) i (fun v => WP d mL_law 309 (ls) (.int v :: st) h Q) := w_iald (show j_ins mL_law 308 = some (49, 309, 0, 0, 0, 0, 0) from rfl)
set_option maxRecDepth 100000 in
theorem r_L_law_309 {d : Nat} {ls : List (Option Value)} {h : j_H} {Q : Option Value → j_H → Prop} {a0 : Nat} {a1 : Int32} : WP (d + 1) mL_law 309 ls [.int a1, .ref a0] h Q = gO (hg h a0) 10 (WP d mX10_matched 0 [some (.ref a0), some (.int a1)] [] h (fun v h1 => WP (d + 1) mL_law 312 ls (pu v []) h1 Q)) := w_vir (k := 62) (ci := 10) (Or.inl rfl) (show j_ins mL_law 309 = some (62, 312, mX10_matched, 1, 10, 36, 517) from rfl) rfl rfl rfl (Nat.le_of_ble_eq_true rfl) (Nat.le_of_ble_eq_true rfl) rfl
set_option maxRecDepth 100000 in
theorem r_L_law_312 {d : Nat} {ls : List (Option Value)} {st : List Value} {h : j_H} {Q : Option Value → j_H → Prop} {l0 l1 : Option Value} {v : Nat} : WP d mL_law 312 (l0 :: l1 :: some (.ref v) :: ls) (st) h Q = WP d mL_law 313 (l0 :: l1 :: some (.ref v) :: ls) (.ref v :: st) h Q := w_aload (show j_ins mL_law 312 = some (2, 313, 2, 0, 0, 0, 0) from rfl) rfl
set_option maxRecDepth 100000 in
theorem r_L_law_313 {d : Nat} {ls : List (Option Value)} {st : List Value} {h : j_H} {Q : Option Value → j_H → Prop} {v : Nat} : WP d mL_law 313 (some (.ref v) :: ls) (st) h Q = WP d mL_law 314 (some (.ref v) :: ls) (.ref v :: st) h Q := w_aload (show j_ins mL_law 313 = some (2, 314, 0, 0, 0, 0, 0) from rfl) rfl
set_option maxRecDepth 100000 in
theorem r_L_law_314 {d : Nat} {ls : List (Option Value)} {st : List Value} {h : j_H} {Q : Option Value → j_H → Prop} {l0 l1 l2 : Option Value} {v : Int32} : WP d mL_law 314 (l0 :: l1 :: l2 :: some (.int v) :: ls) (st) h Q = WP d mL_law 315 (l0 :: l1 :: l2 :: some (.int v) :: ls) (.int v :: st) h Q := w_iload (show j_ins mL_law 314 = some (0, 315, 3, 0, 0, 0, 0) from rfl) rfl
set_option maxRecDepth 100000 in
theorem r_L_law_315 {d : Nat} {ls : List (Option Value)} {st : List Value} {h : j_H} {Q : Option Value → j_H → Prop} : WP d mL_law 315 (ls) (st) h Q = WP d mL_law 316 (ls) (.int (nI 1) :: st) h Q := w_pushi (show j_ins mL_law 315 = some (6, 316, 0, 0, 1, 0, 0) from rfl) (by decide +kernel)
set_option maxRecDepth 100000 in
theorem r_L_law_316 {d : Nat} {ls : List (Option Value)} {st : List Value} {h : j_H} {Q : Option Value → j_H → Prop} {a b : Int32} : WP d mL_law 316 (ls) (.int b :: .int a :: st) h Q = WP d mL_law 317 (ls) (.int (a + b) :: st) h Q := w_iadd (show j_ins mL_law 316 = some (9, 317, 0, 0, 0, 0, 0) from rfl)
set_option maxRecDepth 100000 in
theorem r_L_law_317 {d : Nat} {ls : List (Option Value)} {st : List Value} {h : j_H} {Q : Option Value → j_H → Prop} {a : Nat} {i : Int32} : WP d mL_law 317 (ls) (.int i :: .ref a :: st) h Q = gI (hg h a) i (fun v => WP d mL_law 318 (ls) (.int v :: st) h Q) := w_iald (show j_ins mL_law 317 = some (49, 318, 0, 0, 0, 0, 0) from rfl)
set_option maxRecDepth 100000 in
theorem r_L_law_318 {d : Nat} {ls : List (Option Value)} {h : j_H} {Q : Option Value → j_H → Prop} {u0 : Value} {a0 : Nat} {a1 : Int32} : WP (d + 1) mL_law 318 ls [.int a1, .ref a0, u0] h Q = gO (hg h a0) 11 (WP d mX11_matched 0 [some (.ref a0), some (.int a1)] [] h (fun v h1 => WP (d + 1) mL_law 321 ls (pu v [u0]) h1 Q)) := w_vir (k := 62) (ci := 11) (Or.inl rfl) (show j_ins mL_law 318 = some (62, 321, mX11_matched, 1, 11, 39, 948) from rfl) rfl rfl rfl (Nat.le_of_ble_eq_true rfl) (Nat.le_of_ble_eq_true rfl) rfl
set_option maxRecDepth 100000 in
theorem r_L_law_321 {d : Nat} {ls : List (Option Value)} {st : List Value} {h : j_H} {Q : Option Value → j_H → Prop} {a b : Int32} : WP d mL_law 321 (ls) (.int b :: .int a :: st) h Q = (if a = b then WP d mL_law 794 (ls) (st) h Q else WP d mL_law 324 (ls) (st) h Q) := w_iceq (show j_ins mL_law 321 = some (36, 324, 794, 0, 473, 0, 0) from rfl)
set_option maxRecDepth 100000 in
theorem r_L_law_324 {d : Nat} {ls : List (Option Value)} {st : List Value} {h : j_H} {Q : Option Value → j_H → Prop} : WP d mL_law 324 (ls) (st) h Q = WP d mL_law 325 (ls) (.int (nI 0) :: st) h Q := w_pushi (show j_ins mL_law 324 = some (6, 325, 0, 0, 0, 0, 0) from rfl) (by decide +kernel)
set_option maxRecDepth 100000 in
theorem r_L_law_325 {d : Nat} {ls : List (Option Value)} {h : j_H} {Q : Option Value → j_H → Prop} {v : Bool} : WP d mL_law 325 ls [.int (bI v)] h Q = Q (some (.int (bI v))) h := w_zret (show j_ins mL_law 325 = some (65, 326, 0, 0, 1, 0, 0) from rfl) (bI_01 v)
set_option maxRecDepth 100000 in
theorem r_L_law_325_0 {d : Nat} {ls : List (Option Value)} {h : j_H} {Q : Option Value → j_H → Prop} : WP d mL_law 325 ls [.int (nI 0)] h Q = Q (some (.int (bI false))) h := w_zret (show j_ins mL_law 325 = some (65, 326, 0, 0, 1, 0, 0) from rfl) (Or.inl rfl)
set_option maxRecDepth 100000 in
theorem r_L_law_325_1 {d : Nat} {ls : List (Option Value)} {h : j_H} {Q : Option Value → j_H → Prop} : WP d mL_law 325 ls [.int (nI 1)] h Q = Q (some (.int (bI true))) h := w_zret (show j_ins mL_law 325 = some (65, 326, 0, 0, 1, 0, 0) from rfl) (Or.inr rfl)
set_option maxRecDepth 100000 in
theorem r_L_law_326 {d : Nat} {ls : List (Option Value)} {st : List Value} {h : j_H} {Q : Option Value → j_H → Prop} {l0 : Option Value} {v : Nat} : WP d mL_law 326 (l0 :: some (.ref v) :: ls) (st) h Q = WP d mL_law 327 (l0 :: some (.ref v) :: ls) (.ref v :: st) h Q := w_aload (show j_ins mL_law 326 = some (2, 327, 1, 0, 0, 0, 0) from rfl) rfl
set_option maxRecDepth 100000 in
theorem r_L_law_327 {d : Nat} {ls : List (Option Value)} {h : j_H} {Q : Option Value → j_H → Prop} {a0 : Nat} : WP (d + 1) mL_law 327 ls [.ref a0] h Q = gO (hg h a0) 10 (WP d mX10_heap 0 [some (.ref a0)] [] h (fun v h1 => WP (d + 1) mL_law 330 ls (pu v []) h1 Q)) := w_vir (k := 62) (ci := 10) (Or.inl rfl) (show j_ins mL_law 327 = some (62, 330, mX10_heap, 0, 10, 40, 521) from rfl) rfl rfl rfl (Nat.le_of_ble_eq_true rfl) (Nat.le_of_ble_eq_true rfl) rfl
set_option maxRecDepth 100000 in
theorem r_L_law_330 {d : Nat} {ls : List (Option Value)} {st : List Value} {h : j_H} {Q : Option Value → j_H → Prop} {l0 l1 : Option Value} {v : Nat} : WP d mL_law 330 (l0 :: l1 :: some (.ref v) :: ls) (st) h Q = WP d mL_law 331 (l0 :: l1 :: some (.ref v) :: ls) (.ref v :: st) h Q := w_aload (show j_ins mL_law 330 = some (2, 331, 2, 0, 0, 0, 0) from rfl) rfl
set_option maxRecDepth 100000 in
theorem r_L_law_331 {d : Nat} {ls : List (Option Value)} {h : j_H} {Q : Option Value → j_H → Prop} {u0 : Value} {a0 : Nat} : WP (d + 1) mL_law 331 ls [.ref a0, u0] h Q = gO (hg h a0) 11 (WP d mX11_heap 0 [some (.ref a0), none, none, none, none] [] h (fun v h1 => WP (d + 1) mL_law 334 ls (pu v [u0]) h1 Q)) := w_vir (k := 62) (ci := 11) (Or.inl rfl) (show j_ins mL_law 331 = some (62, 334, mX11_heap, 0, 11, 44, 952) from rfl) rfl rfl rfl (Nat.le_of_ble_eq_true rfl) (Nat.le_of_ble_eq_true rfl) rfl
set_option maxRecDepth 100000 in
theorem r_L_law_334 {d : Nat} {ls : List (Option Value)} {st : List Value} {h : j_H} {Q : Option Value → j_H → Prop} {a b : Int32} : WP d mL_law 334 (ls) (.int b :: .int a :: st) h Q = (if a = b then WP d mL_law 794 (ls) (st) h Q else WP d mL_law 337 (ls) (st) h Q) := w_iceq (show j_ins mL_law 334 = some (36, 337, 794, 0, 460, 0, 0) from rfl)
set_option maxRecDepth 100000 in
theorem r_L_law_337 {d : Nat} {ls : List (Option Value)} {st : List Value} {h : j_H} {Q : Option Value → j_H → Prop} : WP d mL_law 337 (ls) (st) h Q = WP d mL_law 338 (ls) (.int (nI 0) :: st) h Q := w_pushi (show j_ins mL_law 337 = some (6, 338, 0, 0, 0, 0, 0) from rfl) (by decide +kernel)
set_option maxRecDepth 100000 in
theorem r_L_law_338 {d : Nat} {ls : List (Option Value)} {h : j_H} {Q : Option Value → j_H → Prop} {v : Bool} : WP d mL_law 338 ls [.int (bI v)] h Q = Q (some (.int (bI v))) h := w_zret (show j_ins mL_law 338 = some (65, 339, 0, 0, 1, 0, 0) from rfl) (bI_01 v)
set_option maxRecDepth 100000 in
theorem r_L_law_338_0 {d : Nat} {ls : List (Option Value)} {h : j_H} {Q : Option Value → j_H → Prop} : WP d mL_law 338 ls [.int (nI 0)] h Q = Q (some (.int (bI false))) h := w_zret (show j_ins mL_law 338 = some (65, 339, 0, 0, 1, 0, 0) from rfl) (Or.inl rfl)
set_option maxRecDepth 100000 in
theorem r_L_law_338_1 {d : Nat} {ls : List (Option Value)} {h : j_H} {Q : Option Value → j_H → Prop} : WP d mL_law 338 ls [.int (nI 1)] h Q = Q (some (.int (bI true))) h := w_zret (show j_ins mL_law 338 = some (65, 339, 0, 0, 1, 0, 0) from rfl) (Or.inr rfl)
set_option maxRecDepth 100000 in
theorem r_L_law_339 {d : Nat} {ls : List (Option Value)} {st : List Value} {h : j_H} {Q : Option Value → j_H → Prop} {l0 : Option Value} {v : Nat} : WP d mL_law 339 (l0 :: some (.ref v) :: ls) (st) h Q = WP d mL_law 340 (l0 :: some (.ref v) :: ls) (.ref v :: st) h Q := w_aload (show j_ins mL_law 339 = some (2, 340, 1, 0, 0, 0, 0) from rfl) rfl
set_option maxRecDepth 100000 in
theorem r_L_law_340 {d : Nat} {ls : List (Option Value)} {st : List Value} {h : j_H} {Q : Option Value → j_H → Prop} {v : Nat} : WP d mL_law 340 (some (.ref v) :: ls) (st) h Q = WP d mL_law 341 (some (.ref v) :: ls) (.ref v :: st) h Q := w_aload (show j_ins mL_law 340 = some (2, 341, 0, 0, 0, 0, 0) from rfl) rfl
set_option maxRecDepth 100000 in
theorem r_L_law_341 {d : Nat} {ls : List (Option Value)} {st : List Value} {h : j_H} {Q : Option Value → j_H → Prop} {l0 l1 l2 : Option Value} {v : Int32} : WP d mL_law 341 (l0 :: l1 :: l2 :: some (.int v) :: ls) (st) h Q = WP d mL_law 342 (l0 :: l1 :: l2 :: some (.int v) :: ls) (.int v :: st) h Q := w_iload (show j_ins mL_law 341 = some (0, 342, 3, 0, 0, 0, 0) from rfl) rfl
set_option maxRecDepth 100000 in
theorem r_L_law_342 {d : Nat} {ls : List (Option Value)} {st : List Value} {h : j_H} {Q : Option Value → j_H → Prop} : WP d mL_law 342 (ls) (st) h Q = WP d mL_law 343 (ls) (.int (nI 1) :: st) h Q := w_pushi (show j_ins mL_law 342 = some (6, 343, 0, 0, 1, 0, 0) from rfl) (by decide +kernel)
set_option maxRecDepth 100000 in
theorem r_L_law_343 {d : Nat} {ls : List (Option Value)} {st : List Value} {h : j_H} {Q : Option Value → j_H → Prop} {a b : Int32} : WP d mL_law 343 (ls) (.int b :: .int a :: st) h Q = WP d mL_law 344 (ls) (.int (a + b) :: st) h Q := w_iadd (show j_ins mL_law 343 = some (9, 344, 0, 0, 0, 0, 0) from rfl)
set_option maxRecDepth 100000 in
theorem r_L_law_344 {d : Nat} {ls : List (Option Value)} {st : List Value} {h : j_H} {Q : Option Value → j_H → Prop} {a : Nat} {i : Int32} : WP d mL_law 344 (ls) (.int i :: .ref a :: st) h Q = gI (hg h a) i (fun v => WP d mL_law 345 (ls) (.int v :: st) h Q) := w_iald (show j_ins mL_law 344 = some (49, 345, 0, 0, 0, 0, 0) from rfl)
set_option maxRecDepth 100000 in
theorem r_L_law_345 {d : Nat} {ls : List (Option Value)} {h : j_H} {Q : Option Value → j_H → Prop} {a0 : Nat} {a1 : Int32} : WP (d + 1) mL_law 345 ls [.int a1, .ref a0] h Q = gO (hg h a0) 10 (WP d mX10_columns 0 [some (.ref a0), some (.int a1), none, none] [] h (fun v h1 => WP (d + 1) mL_law 348 ls (pu v []) h1 Q)) := w_vir (k := 62) (ci := 10) (Or.inl rfl) (show j_ins mL_law 345 = some (62, 348, mX10_columns, 1, 10, 45, 533) from rfl) rfl rfl rfl (Nat.le_of_ble_eq_true rfl) (Nat.le_of_ble_eq_true rfl) rfl
set_option maxRecDepth 100000 in
theorem r_L_law_348 {d : Nat} {ls : List (Option Value)} {st : List Value} {h : j_H} {Q : Option Value → j_H → Prop} {l0 l1 : Option Value} {v : Nat} : WP d mL_law 348 (l0 :: l1 :: some (.ref v) :: ls) (st) h Q = WP d mL_law 349 (l0 :: l1 :: some (.ref v) :: ls) (.ref v :: st) h Q := w_aload (show j_ins mL_law 348 = some (2, 349, 2, 0, 0, 0, 0) from rfl) rfl
set_option maxRecDepth 100000 in
theorem r_L_law_349 {d : Nat} {ls : List (Option Value)} {st : List Value} {h : j_H} {Q : Option Value → j_H → Prop} {v : Nat} : WP d mL_law 349 (some (.ref v) :: ls) (st) h Q = WP d mL_law 350 (some (.ref v) :: ls) (.ref v :: st) h Q := w_aload (show j_ins mL_law 349 = some (2, 350, 0, 0, 0, 0, 0) from rfl) rfl
set_option maxRecDepth 100000 in
theorem r_L_law_350 {d : Nat} {ls : List (Option Value)} {st : List Value} {h : j_H} {Q : Option Value → j_H → Prop} {l0 l1 l2 : Option Value} {v : Int32} : WP d mL_law 350 (l0 :: l1 :: l2 :: some (.int v) :: ls) (st) h Q = WP d mL_law 351 (l0 :: l1 :: l2 :: some (.int v) :: ls) (.int v :: st) h Q := w_iload (show j_ins mL_law 350 = some (0, 351, 3, 0, 0, 0, 0) from rfl) rfl
set_option maxRecDepth 100000 in
theorem r_L_law_351 {d : Nat} {ls : List (Option Value)} {st : List Value} {h : j_H} {Q : Option Value → j_H → Prop} : WP d mL_law 351 (ls) (st) h Q = WP d mL_law 352 (ls) (.int (nI 1) :: st) h Q := w_pushi (show j_ins mL_law 351 = some (6, 352, 0, 0, 1, 0, 0) from rfl) (by decide +kernel)
set_option maxRecDepth 100000 in
theorem r_L_law_352 {d : Nat} {ls : List (Option Value)} {st : List Value} {h : j_H} {Q : Option Value → j_H → Prop} {a b : Int32} : WP d mL_law 352 (ls) (.int b :: .int a :: st) h Q = WP d mL_law 353 (ls) (.int (a + b) :: st) h Q := w_iadd (show j_ins mL_law 352 = some (9, 353, 0, 0, 0, 0, 0) from rfl)
set_option maxRecDepth 100000 in
theorem r_L_law_353 {d : Nat} {ls : List (Option Value)} {st : List Value} {h : j_H} {Q : Option Value → j_H → Prop} {a : Nat} {i : Int32} : WP d mL_law 353 (ls) (.int i :: .ref a :: st) h Q = gI (hg h a) i (fun v => WP d mL_law 354 (ls) (.int v :: st) h Q) := w_iald (show j_ins mL_law 353 = some (49, 354, 0, 0, 0, 0, 0) from rfl)
set_option maxRecDepth 100000 in
theorem r_L_law_354 {d : Nat} {ls : List (Option Value)} {h : j_H} {Q : Option Value → j_H → Prop} {u0 : Value} {a0 : Nat} {a1 : Int32} : WP (d + 1) mL_law 354 ls [.int a1, .ref a0, u0] h Q = gO (hg h a0) 11 (WP d mX11_columns 0 [some (.ref a0), some (.int a1)] [] h (fun v h1 => WP (d + 1) mL_law 357 ls (pu v [u0]) h1 Q)) := w_vir (k := 62) (ci := 11) (Or.inl rfl) (show j_ins mL_law 354 = some (62, 357, mX11_columns, 1, 11, 48, 960) from rfl) rfl rfl rfl (Nat.le_of_ble_eq_true rfl) (Nat.le_of_ble_eq_true rfl) rfl
set_option maxRecDepth 100000 in
theorem r_L_law_357 {d : Nat} {ls : List (Option Value)} {st : List Value} {h : j_H} {Q : Option Value → j_H → Prop} {a b : Int32} : WP d mL_law 357 (ls) (.int b :: .int a :: st) h Q = (if a = b then WP d mL_law 794 (ls) (st) h Q else WP d mL_law 360 (ls) (st) h Q) := w_iceq (show j_ins mL_law 357 = some (36, 360, 794, 0, 437, 0, 0) from rfl)
set_option maxRecDepth 100000 in
theorem r_L_law_360 {d : Nat} {ls : List (Option Value)} {st : List Value} {h : j_H} {Q : Option Value → j_H → Prop} : WP d mL_law 360 (ls) (st) h Q = WP d mL_law 361 (ls) (.int (nI 0) :: st) h Q := w_pushi (show j_ins mL_law 360 = some (6, 361, 0, 0, 0, 0, 0) from rfl) (by decide +kernel)
set_option maxRecDepth 100000 in
theorem r_L_law_361 {d : Nat} {ls : List (Option Value)} {h : j_H} {Q : Option Value → j_H → Prop} {v : Bool} : WP d mL_law 361 ls [.int (bI v)] h Q = Q (some (.int (bI v))) h := w_zret (show j_ins mL_law 361 = some (65, 362, 0, 0, 1, 0, 0) from rfl) (bI_01 v)
set_option maxRecDepth 100000 in
theorem r_L_law_361_0 {d : Nat} {ls : List (Option Value)} {h : j_H} {Q : Option Value → j_H → Prop} : WP d mL_law 361 ls [.int (nI 0)] h Q = Q (some (.int (bI false))) h := w_zret (show j_ins mL_law 361 = some (65, 362, 0, 0, 1, 0, 0) from rfl) (Or.inl rfl)
set_option maxRecDepth 100000 in
theorem r_L_law_361_1 {d : Nat} {ls : List (Option Value)} {h : j_H} {Q : Option Value → j_H → Prop} : WP d mL_law 361 ls [.int (nI 1)] h Q = Q (some (.int (bI true))) h := w_zret (show j_ins mL_law 361 = some (65, 362, 0, 0, 1, 0, 0) from rfl) (Or.inr rfl)
set_option maxRecDepth 100000 in
theorem r_L_law_362 {d : Nat} {ls : List (Option Value)} {st : List Value} {h : j_H} {Q : Option Value → j_H → Prop} {l0 : Option Value} {v : Nat} : WP d mL_law 362 (l0 :: some (.ref v) :: ls) (st) h Q = WP d mL_law 363 (l0 :: some (.ref v) :: ls) (.ref v :: st) h Q := w_aload (show j_ins mL_law 362 = some (2, 363, 1, 0, 0, 0, 0) from rfl) rfl
set_option maxRecDepth 100000 in
theorem r_L_law_363 {d : Nat} {ls : List (Option Value)} {st : List Value} {h : j_H} {Q : Option Value → j_H → Prop} {v : Nat} : WP d mL_law 363 (some (.ref v) :: ls) (st) h Q = WP d mL_law 364 (some (.ref v) :: ls) (.ref v :: st) h Q := w_aload (show j_ins mL_law 363 = some (2, 364, 0, 0, 0, 0, 0) from rfl) rfl
set_option maxRecDepth 100000 in
theorem r_L_law_364 {d : Nat} {ls : List (Option Value)} {st : List Value} {h : j_H} {Q : Option Value → j_H → Prop} {l0 l1 l2 : Option Value} {v : Int32} : WP d mL_law 364 (l0 :: l1 :: l2 :: some (.int v) :: ls) (st) h Q = WP d mL_law 365 (l0 :: l1 :: l2 :: some (.int v) :: ls) (.int v :: st) h Q := w_iload (show j_ins mL_law 364 = some (0, 365, 3, 0, 0, 0, 0) from rfl) rfl
set_option maxRecDepth 100000 in
theorem r_L_law_365 {d : Nat} {ls : List (Option Value)} {st : List Value} {h : j_H} {Q : Option Value → j_H → Prop} : WP d mL_law 365 (ls) (st) h Q = WP d mL_law 366 (ls) (.int (nI 1) :: st) h Q := w_pushi (show j_ins mL_law 365 = some (6, 366, 0, 0, 1, 0, 0) from rfl) (by decide +kernel)
set_option maxRecDepth 100000 in
theorem r_L_law_366 {d : Nat} {ls : List (Option Value)} {st : List Value} {h : j_H} {Q : Option Value → j_H → Prop} {a b : Int32} : WP d mL_law 366 (ls) (.int b :: .int a :: st) h Q = WP d mL_law 367 (ls) (.int (a + b) :: st) h Q := w_iadd (show j_ins mL_law 366 = some (9, 367, 0, 0, 0, 0, 0) from rfl)
set_option maxRecDepth 100000 in
theorem r_L_law_367 {d : Nat} {ls : List (Option Value)} {st : List Value} {h : j_H} {Q : Option Value → j_H → Prop} {a : Nat} {i : Int32} : WP d mL_law 367 (ls) (.int i :: .ref a :: st) h Q = gI (hg h a) i (fun v => WP d mL_law 368 (ls) (.int v :: st) h Q) := w_iald (show j_ins mL_law 367 = some (49, 368, 0, 0, 0, 0, 0) from rfl)
set_option maxRecDepth 100000 in
theorem r_L_law_368 {d : Nat} {ls : List (Option Value)} {h : j_H} {Q : Option Value → j_H → Prop} {a0 : Nat} {a1 : Int32} : WP (d + 1) mL_law 368 ls [.int a1, .ref a0] h Q = gO (hg h a0) 10 (WP d mX10_block 0 [some (.ref a0), some (.int a1)] [] h (fun v h1 => WP (d + 1) mL_law 371 ls (pu v []) h1 Q)) := w_vir (k := 62) (ci := 10) (Or.inl rfl) (show j_ins mL_law 368 = some (62, 371, mX10_block, 1, 10, 49, 539) from rfl) rfl rfl rfl (Nat.le_of_ble_eq_true rfl) (Nat.le_of_ble_eq_true rfl) rfl
set_option maxRecDepth 100000 in
theorem r_L_law_371 {d : Nat} {ls : List (Option Value)} {st : List Value} {h : j_H} {Q : Option Value → j_H → Prop} {l0 l1 : Option Value} {v : Nat} : WP d mL_law 371 (l0 :: l1 :: some (.ref v) :: ls) (st) h Q = WP d mL_law 372 (l0 :: l1 :: some (.ref v) :: ls) (.ref v :: st) h Q := w_aload (show j_ins mL_law 371 = some (2, 372, 2, 0, 0, 0, 0) from rfl) rfl
set_option maxRecDepth 100000 in
theorem r_L_law_372 {d : Nat} {ls : List (Option Value)} {st : List Value} {h : j_H} {Q : Option Value → j_H → Prop} {v : Nat} : WP d mL_law 372 (some (.ref v) :: ls) (st) h Q = WP d mL_law 373 (some (.ref v) :: ls) (.ref v :: st) h Q := w_aload (show j_ins mL_law 372 = some (2, 373, 0, 0, 0, 0, 0) from rfl) rfl
set_option maxRecDepth 100000 in
theorem r_L_law_373 {d : Nat} {ls : List (Option Value)} {st : List Value} {h : j_H} {Q : Option Value → j_H → Prop} {l0 l1 l2 : Option Value} {v : Int32} : WP d mL_law 373 (l0 :: l1 :: l2 :: some (.int v) :: ls) (st) h Q = WP d mL_law 374 (l0 :: l1 :: l2 :: some (.int v) :: ls) (.int v :: st) h Q := w_iload (show j_ins mL_law 373 = some (0, 374, 3, 0, 0, 0, 0) from rfl) rfl
set_option maxRecDepth 100000 in
theorem r_L_law_374 {d : Nat} {ls : List (Option Value)} {st : List Value} {h : j_H} {Q : Option Value → j_H → Prop} : WP d mL_law 374 (ls) (st) h Q = WP d mL_law 375 (ls) (.int (nI 1) :: st) h Q := w_pushi (show j_ins mL_law 374 = some (6, 375, 0, 0, 1, 0, 0) from rfl) (by decide +kernel)
set_option maxRecDepth 100000 in
theorem r_L_law_375 {d : Nat} {ls : List (Option Value)} {st : List Value} {h : j_H} {Q : Option Value → j_H → Prop} {a b : Int32} : WP d mL_law 375 (ls) (.int b :: .int a :: st) h Q = WP d mL_law 376 (ls) (.int (a + b) :: st) h Q := w_iadd (show j_ins mL_law 375 = some (9, 376, 0, 0, 0, 0, 0) from rfl)
set_option maxRecDepth 100000 in
theorem r_L_law_376 {d : Nat} {ls : List (Option Value)} {st : List Value} {h : j_H} {Q : Option Value → j_H → Prop} {a : Nat} {i : Int32} : WP d mL_law 376 (ls) (.int i :: .ref a :: st) h Q = gI (hg h a) i (fun v => WP d mL_law 377 (ls) (.int v :: st) h Q) := w_iald (show j_ins mL_law 376 = some (49, 377, 0, 0, 0, 0, 0) from rfl)
set_option maxRecDepth 100000 in
theorem r_L_law_377 {d : Nat} {ls : List (Option Value)} {h : j_H} {Q : Option Value → j_H → Prop} {u0 : Value} {a0 : Nat} {a1 : Int32} : WP (d + 1) mL_law 377 ls [.int a1, .ref a0, u0] h Q = gO (hg h a0) 11 (WP d mX11_block 0 [some (.ref a0), some (.int a1)] [] h (fun v h1 => WP (d + 1) mL_law 380 ls (pu v [u0]) h1 Q)) := w_vir (k := 62) (ci := 11) (Or.inl rfl) (show j_ins mL_law 377 = some (62, 380, mX11_block, 1, 11, 52, 964) from rfl) rfl rfl rfl (Nat.le_of_ble_eq_true rfl) (Nat.le_of_ble_eq_true rfl) rfl
set_option maxRecDepth 100000 in
theorem r_L_law_380 {d : Nat} {ls : List (Option Value)} {st : List Value} {h : j_H} {Q : Option Value → j_H → Prop} {a b : Int32} : WP d mL_law 380 (ls) (.int b :: .int a :: st) h Q = (if a = b then WP d mL_law 794 (ls) (st) h Q else WP d mL_law 383 (ls) (st) h Q) := w_iceq (show j_ins mL_law 380 = some (36, 383, 794, 0, 414, 0, 0) from rfl)
set_option maxRecDepth 100000 in
theorem r_L_law_383 {d : Nat} {ls : List (Option Value)} {st : List Value} {h : j_H} {Q : Option Value → j_H → Prop} : WP d mL_law 383 (ls) (st) h Q = WP d mL_law 384 (ls) (.int (nI 0) :: st) h Q := w_pushi (show j_ins mL_law 383 = some (6, 384, 0, 0, 0, 0, 0) from rfl) (by decide +kernel)
set_option maxRecDepth 100000 in
theorem r_L_law_384 {d : Nat} {ls : List (Option Value)} {h : j_H} {Q : Option Value → j_H → Prop} {v : Bool} : WP d mL_law 384 ls [.int (bI v)] h Q = Q (some (.int (bI v))) h := w_zret (show j_ins mL_law 384 = some (65, 385, 0, 0, 1, 0, 0) from rfl) (bI_01 v)
set_option maxRecDepth 100000 in
theorem r_L_law_384_0 {d : Nat} {ls : List (Option Value)} {h : j_H} {Q : Option Value → j_H → Prop} : WP d mL_law 384 ls [.int (nI 0)] h Q = Q (some (.int (bI false))) h := w_zret (show j_ins mL_law 384 = some (65, 385, 0, 0, 1, 0, 0) from rfl) (Or.inl rfl)
set_option maxRecDepth 100000 in
theorem r_L_law_384_1 {d : Nat} {ls : List (Option Value)} {h : j_H} {Q : Option Value → j_H → Prop} : WP d mL_law 384 ls [.int (nI 1)] h Q = Q (some (.int (bI true))) h := w_zret (show j_ins mL_law 384 = some (65, 385, 0, 0, 1, 0, 0) from rfl) (Or.inr rfl)
set_option maxRecDepth 100000 in
theorem r_L_law_385 {d : Nat} {ls : List (Option Value)} {st : List Value} {h : j_H} {Q : Option Value → j_H → Prop} {l0 : Option Value} {v : Nat} : WP d mL_law 385 (l0 :: some (.ref v) :: ls) (st) h Q = WP d mL_law 386 (l0 :: some (.ref v) :: ls) (.ref v :: st) h Q := w_aload (show j_ins mL_law 385 = some (2, 386, 1, 0, 0, 0, 0) from rfl) rfl
set_option maxRecDepth 100000 in
theorem r_L_law_386 {d : Nat} {ls : List (Option Value)} {st : List Value} {h : j_H} {Q : Option Value → j_H → Prop} {v : Nat} : WP d mL_law 386 (some (.ref v) :: ls) (st) h Q = WP d mL_law 387 (some (.ref v) :: ls) (.ref v :: st) h Q := w_aload (show j_ins mL_law 386 = some (2, 387, 0, 0, 0, 0, 0) from rfl) rfl
set_option maxRecDepth 100000 in
theorem r_L_law_387 {d : Nat} {ls : List (Option Value)} {st : List Value} {h : j_H} {Q : Option Value → j_H → Prop} {l0 l1 l2 : Option Value} {v : Int32} : WP d mL_law 387 (l0 :: l1 :: l2 :: some (.int v) :: ls) (st) h Q = WP d mL_law 388 (l0 :: l1 :: l2 :: some (.int v) :: ls) (.int v :: st) h Q := w_iload (show j_ins mL_law 387 = some (0, 388, 3, 0, 0, 0, 0) from rfl) rfl
set_option maxRecDepth 100000 in
theorem r_L_law_388 {d : Nat} {ls : List (Option Value)} {st : List Value} {h : j_H} {Q : Option Value → j_H → Prop} : WP d mL_law 388 (ls) (st) h Q = WP d mL_law 389 (ls) (.int (nI 1) :: st) h Q := w_pushi (show j_ins mL_law 388 = some (6, 389, 0, 0, 1, 0, 0) from rfl) (by decide +kernel)
set_option maxRecDepth 100000 in
theorem r_L_law_389 {d : Nat} {ls : List (Option Value)} {st : List Value} {h : j_H} {Q : Option Value → j_H → Prop} {a b : Int32} : WP d mL_law 389 (ls) (.int b :: .int a :: st) h Q = WP d mL_law 390 (ls) (.int (a + b) :: st) h Q := w_iadd (show j_ins mL_law 389 = some (9, 390, 0, 0, 0, 0, 0) from rfl)
set_option maxRecDepth 100000 in
theorem r_L_law_390 {d : Nat} {ls : List (Option Value)} {st : List Value} {h : j_H} {Q : Option Value → j_H → Prop} {a : Nat} {i : Int32} : WP d mL_law 390 (ls) (.int i :: .ref a :: st) h Q = gI (hg h a) i (fun v => WP d mL_law 391 (ls) (.int v :: st) h Q) := w_iald (show j_ins mL_law 390 = some (49, 391, 0, 0, 0, 0, 0) from rfl)
set_option maxRecDepth 100000 in
theorem r_L_law_391 {d : Nat} {ls : List (Option Value)} {h : j_H} {Q : Option Value → j_H → Prop} {a0 : Nat} {a1 : Int32} : WP (d + 1) mL_law 391 ls [.int a1, .ref a0] h Q = gO (hg h a0) 10 (WP d mX10_rows 0 [some (.ref a0), some (.int a1)] [] h (fun v h1 => WP (d + 1) mL_law 394 ls (pu v []) h1 Q)) := w_vir (k := 62) (ci := 10) (Or.inl rfl) (show j_ins mL_law 391 = some (62, 394, mX10_rows, 1, 10, 53, 547) from rfl) rfl rfl rfl (Nat.le_of_ble_eq_true rfl) (Nat.le_of_ble_eq_true rfl) rfl
set_option maxRecDepth 100000 in
theorem r_L_law_394 {d : Nat} {ls : List (Option Value)} {st : List Value} {h : j_H} {Q : Option Value → j_H → Prop} {l0 l1 : Option Value} {v : Nat} : WP d mL_law 394 (l0 :: l1 :: some (.ref v) :: ls) (st) h Q = WP d mL_law 395 (l0 :: l1 :: some (.ref v) :: ls) (.ref v :: st) h Q := w_aload (show j_ins mL_law 394 = some (2, 395, 2, 0, 0, 0, 0) from rfl) rfl
set_option maxRecDepth 100000 in
theorem r_L_law_395 {d : Nat} {ls : List (Option Value)} {st : List Value} {h : j_H} {Q : Option Value → j_H → Prop} {v : Nat} : WP d mL_law 395 (some (.ref v) :: ls) (st) h Q = WP d mL_law 396 (some (.ref v) :: ls) (.ref v :: st) h Q := w_aload (show j_ins mL_law 395 = some (2, 396, 0, 0, 0, 0, 0) from rfl) rfl
set_option maxRecDepth 100000 in
theorem r_L_law_396 {d : Nat} {ls : List (Option Value)} {st : List Value} {h : j_H} {Q : Option Value → j_H → Prop} {l0 l1 l2 : Option Value} {v : Int32} : WP d mL_law 396 (l0 :: l1 :: l2 :: some (.int v) :: ls) (st) h Q = WP d mL_law 397 (l0 :: l1 :: l2 :: some (.int v) :: ls) (.int v :: st) h Q := w_iload (show j_ins mL_law 396 = some (0, 397, 3, 0, 0, 0, 0) from rfl) rfl
set_option maxRecDepth 100000 in
theorem r_L_law_397 {d : Nat} {ls : List (Option Value)} {st : List Value} {h : j_H} {Q : Option Value → j_H → Prop} : WP d mL_law 397 (ls) (st) h Q = WP d mL_law 398 (ls) (.int (nI 1) :: st) h Q := w_pushi (show j_ins mL_law 397 = some (6, 398, 0, 0, 1, 0, 0) from rfl) (by decide +kernel)
set_option maxRecDepth 100000 in
theorem r_L_law_398 {d : Nat} {ls : List (Option Value)} {st : List Value} {h : j_H} {Q : Option Value → j_H → Prop} {a b : Int32} : WP d mL_law 398 (ls) (.int b :: .int a :: st) h Q = WP d mL_law 399 (ls) (.int (a + b) :: st) h Q := w_iadd (show j_ins mL_law 398 = some (9, 399, 0, 0, 0, 0, 0) from rfl)
set_option maxRecDepth 100000 in
theorem r_L_law_399 {d : Nat} {ls : List (Option Value)} {st : List Value} {h : j_H} {Q : Option Value → j_H → Prop} {a : Nat} {i : Int32} : WP d mL_law 399 (ls) (.int i :: .ref a :: st) h Q = gI (hg h a) i (fun v => WP d mL_law 400 (ls) (.int v :: st) h Q) := w_iald (show j_ins mL_law 399 = some (49, 400, 0, 0, 0, 0, 0) from rfl)
set_option maxRecDepth 100000 in
theorem r_L_law_400 {d : Nat} {ls : List (Option Value)} {h : j_H} {Q : Option Value → j_H → Prop} {u0 : Value} {a0 : Nat} {a1 : Int32} : WP (d + 1) mL_law 400 ls [.int a1, .ref a0, u0] h Q = gO (hg h a0) 11 (WP d mX11_rows 0 [some (.ref a0), some (.int a1), none, none] [] h (fun v h1 => WP (d + 1) mL_law 403 ls (pu v [u0]) h1 Q)) := w_vir (k := 62) (ci := 11) (Or.inl rfl) (show j_ins mL_law 400 = some (62, 403, mX11_rows, 1, 11, 56, 968) from rfl) rfl rfl rfl (Nat.le_of_ble_eq_true rfl) (Nat.le_of_ble_eq_true rfl) rfl
set_option maxRecDepth 100000 in
theorem r_L_law_403 {d : Nat} {ls : List (Option Value)} {st : List Value} {h : j_H} {Q : Option Value → j_H → Prop} {a b : Int32} : WP d mL_law 403 (ls) (.int b :: .int a :: st) h Q = (if a = b then WP d mL_law 794 (ls) (st) h Q else WP d mL_law 406 (ls) (st) h Q) := w_iceq (show j_ins mL_law 403 = some (36, 406, 794, 0, 391, 0, 0) from rfl)
set_option maxRecDepth 100000 in
theorem r_L_law_406 {d : Nat} {ls : List (Option Value)} {st : List Value} {h : j_H} {Q : Option Value → j_H → Prop} : WP d mL_law 406 (ls) (st) h Q = WP d mL_law 407 (ls) (.int (nI 0) :: st) h Q := w_pushi (show j_ins mL_law 406 = some (6, 407, 0, 0, 0, 0, 0) from rfl) (by decide +kernel)
set_option maxRecDepth 100000 in
theorem r_L_law_407 {d : Nat} {ls : List (Option Value)} {h : j_H} {Q : Option Value → j_H → Prop} {v : Bool} : WP d mL_law 407 ls [.int (bI v)] h Q = Q (some (.int (bI v))) h := w_zret (show j_ins mL_law 407 = some (65, 408, 0, 0, 1, 0, 0) from rfl) (bI_01 v)
set_option maxRecDepth 100000 in
theorem r_L_law_407_0 {d : Nat} {ls : List (Option Value)} {h : j_H} {Q : Option Value → j_H → Prop} : WP d mL_law 407 ls [.int (nI 0)] h Q = Q (some (.int (bI false))) h := w_zret (show j_ins mL_law 407 = some (65, 408, 0, 0, 1, 0, 0) from rfl) (Or.inl rfl)
set_option maxRecDepth 100000 in
theorem r_L_law_407_1 {d : Nat} {ls : List (Option Value)} {h : j_H} {Q : Option Value → j_H → Prop} : WP d mL_law 407 ls [.int (nI 1)] h Q = Q (some (.int (bI true))) h := w_zret (show j_ins mL_law 407 = some (65, 408, 0, 0, 1, 0, 0) from rfl) (Or.inr rfl)
set_option maxRecDepth 100000 in
theorem r_L_law_408 {d : Nat} {ls : List (Option Value)} {st : List Value} {h : j_H} {Q : Option Value → j_H → Prop} {l0 : Option Value} {v : Nat} : WP d mL_law 408 (l0 :: some (.ref v) :: ls) (st) h Q = WP d mL_law 409 (l0 :: some (.ref v) :: ls) (.ref v :: st) h Q := w_aload (show j_ins mL_law 408 = some (2, 409, 1, 0, 0, 0, 0) from rfl) rfl
set_option maxRecDepth 100000 in
theorem r_L_law_409 {d : Nat} {ls : List (Option Value)} {st : List Value} {h : j_H} {Q : Option Value → j_H → Prop} {v : Nat} : WP d mL_law 409 (some (.ref v) :: ls) (st) h Q = WP d mL_law 410 (some (.ref v) :: ls) (.ref v :: st) h Q := w_aload (show j_ins mL_law 409 = some (2, 410, 0, 0, 0, 0, 0) from rfl) rfl
set_option maxRecDepth 100000 in
theorem r_L_law_410 {d : Nat} {ls : List (Option Value)} {st : List Value} {h : j_H} {Q : Option Value → j_H → Prop} {l0 l1 l2 : Option Value} {v : Int32} : WP d mL_law 410 (l0 :: l1 :: l2 :: some (.int v) :: ls) (st) h Q = WP d mL_law 411 (l0 :: l1 :: l2 :: some (.int v) :: ls) (.int v :: st) h Q := w_iload (show j_ins mL_law 410 = some (0, 411, 3, 0, 0, 0, 0) from rfl) rfl
set_option maxRecDepth 100000 in
theorem r_L_law_411 {d : Nat} {ls : List (Option Value)} {st : List Value} {h : j_H} {Q : Option Value → j_H → Prop} : WP d mL_law 411 (ls) (st) h Q = WP d mL_law 412 (ls) (.int (nI 1) :: st) h Q := w_pushi (show j_ins mL_law 411 = some (6, 412, 0, 0, 1, 0, 0) from rfl) (by decide +kernel)
set_option maxRecDepth 100000 in
theorem r_L_law_412 {d : Nat} {ls : List (Option Value)} {st : List Value} {h : j_H} {Q : Option Value → j_H → Prop} {a b : Int32} : WP d mL_law 412 (ls) (.int b :: .int a :: st) h Q = WP d mL_law 413 (ls) (.int (a + b) :: st) h Q := w_iadd (show j_ins mL_law 412 = some (9, 413, 0, 0, 0, 0, 0) from rfl)
set_option maxRecDepth 100000 in
theorem r_L_law_413 {d : Nat} {ls : List (Option Value)} {st : List Value} {h : j_H} {Q : Option Value → j_H → Prop} {a : Nat} {i : Int32} : WP d mL_law 413 (ls) (.int i :: .ref a :: st) h Q = gI (hg h a) i (fun v => WP d mL_law 414 (ls) (.int v :: st) h Q) := w_iald (show j_ins mL_law 413 = some (49, 414, 0, 0, 0, 0, 0) from rfl)
set_option maxRecDepth 100000 in
theorem r_L_law_414 {d : Nat} {ls : List (Option Value)} {h : j_H} {Q : Option Value → j_H → Prop} {a0 : Nat} {a1 : Int32} : WP (d + 1) mL_law 414 ls [.int a1, .ref a0] h Q = gO (hg h a0) 10 (WP d mX10_joined 0 [some (.ref a0), some (.int a1)] [] h (fun v h1 => WP (d + 1) mL_law 417 ls (pu v []) h1 Q)) := w_vir (k := 62) (ci := 10) (Or.inl rfl) (show j_ins mL_law 414 = some (62, 417, mX10_joined, 1, 10, 57, 551) from rfl) rfl rfl rfl (Nat.le_of_ble_eq_true rfl) (Nat.le_of_ble_eq_true rfl) rfl
set_option maxRecDepth 100000 in
theorem r_L_law_417 {d : Nat} {ls : List (Option Value)} {st : List Value} {h : j_H} {Q : Option Value → j_H → Prop} {l0 l1 : Option Value} {v : Nat} : WP d mL_law 417 (l0 :: l1 :: some (.ref v) :: ls) (st) h Q = WP d mL_law 418 (l0 :: l1 :: some (.ref v) :: ls) (.ref v :: st) h Q := w_aload (show j_ins mL_law 417 = some (2, 418, 2, 0, 0, 0, 0) from rfl) rfl
set_option maxRecDepth 100000 in
theorem r_L_law_418 {d : Nat} {ls : List (Option Value)} {st : List Value} {h : j_H} {Q : Option Value → j_H → Prop} {v : Nat} : WP d mL_law 418 (some (.ref v) :: ls) (st) h Q = WP d mL_law 419 (some (.ref v) :: ls) (.ref v :: st) h Q := w_aload (show j_ins mL_law 418 = some (2, 419, 0, 0, 0, 0, 0) from rfl) rfl
set_option maxRecDepth 100000 in
theorem r_L_law_419 {d : Nat} {ls : List (Option Value)} {st : List Value} {h : j_H} {Q : Option Value → j_H → Prop} {l0 l1 l2 : Option Value} {v : Int32} : WP d mL_law 419 (l0 :: l1 :: l2 :: some (.int v) :: ls) (st) h Q = WP d mL_law 420 (l0 :: l1 :: l2 :: some (.int v) :: ls) (.int v :: st) h Q := w_iload (show j_ins mL_law 419 = some (0, 420, 3, 0, 0, 0, 0) from rfl) rfl
set_option maxRecDepth 100000 in
theorem r_L_law_420 {d : Nat} {ls : List (Option Value)} {st : List Value} {h : j_H} {Q : Option Value → j_H → Prop} : WP d mL_law 420 (ls) (st) h Q = WP d mL_law 421 (ls) (.int (nI 1) :: st) h Q := w_pushi (show j_ins mL_law 420 = some (6, 421, 0, 0, 1, 0, 0) from rfl) (by decide +kernel)
set_option maxRecDepth 100000 in
theorem r_L_law_421 {d : Nat} {ls : List (Option Value)} {st : List Value} {h : j_H} {Q : Option Value → j_H → Prop} {a b : Int32} : WP d mL_law 421 (ls) (.int b :: .int a :: st) h Q = WP d mL_law 422 (ls) (.int (a + b) :: st) h Q := w_iadd (show j_ins mL_law 421 = some (9, 422, 0, 0, 0, 0, 0) from rfl)
set_option maxRecDepth 100000 in
theorem r_L_law_422 {d : Nat} {ls : List (Option Value)} {st : List Value} {h : j_H} {Q : Option Value → j_H → Prop} {a : Nat} {i : Int32} : WP d mL_law 422 (ls) (.int i :: .ref a :: st) h Q = gI (hg h a) i (fun v => WP d mL_law 423 (ls) (.int v :: st) h Q) := w_iald (show j_ins mL_law 422 = some (49, 423, 0, 0, 0, 0, 0) from rfl)
set_option maxRecDepth 100000 in
theorem r_L_law_423 {d : Nat} {ls : List (Option Value)} {h : j_H} {Q : Option Value → j_H → Prop} {u0 : Value} {a0 : Nat} {a1 : Int32} : WP (d + 1) mL_law 423 ls [.int a1, .ref a0, u0] h Q = gO (hg h a0) 11 (WP d mX11_joined 0 [some (.ref a0), some (.int a1)] [] h (fun v h1 => WP (d + 1) mL_law 426 ls (pu v [u0]) h1 Q)) := w_vir (k := 62) (ci := 11) (Or.inl rfl) (show j_ins mL_law 423 = some (62, 426, mX11_joined, 1, 11, 60, 972) from rfl) rfl rfl rfl (Nat.le_of_ble_eq_true rfl) (Nat.le_of_ble_eq_true rfl) rfl
set_option maxRecDepth 100000 in
theorem r_L_law_426 {d : Nat} {ls : List (Option Value)} {st : List Value} {h : j_H} {Q : Option Value → j_H → Prop} {a b : Int32} : WP d mL_law 426 (ls) (.int b :: .int a :: st) h Q = (if a = b then WP d mL_law 794 (ls) (st) h Q else WP d mL_law 429 (ls) (st) h Q) := w_iceq (show j_ins mL_law 426 = some (36, 429, 794, 0, 368, 0, 0) from rfl)
set_option maxRecDepth 100000 in
theorem r_L_law_429 {d : Nat} {ls : List (Option Value)} {st : List Value} {h : j_H} {Q : Option Value → j_H → Prop} : WP d mL_law 429 (ls) (st) h Q = WP d mL_law 430 (ls) (.int (nI 0) :: st) h Q := w_pushi (show j_ins mL_law 429 = some (6, 430, 0, 0, 0, 0, 0) from rfl) (by decide +kernel)
set_option maxRecDepth 100000 in
theorem r_L_law_430 {d : Nat} {ls : List (Option Value)} {h : j_H} {Q : Option Value → j_H → Prop} {v : Bool} : WP d mL_law 430 ls [.int (bI v)] h Q = Q (some (.int (bI v))) h := w_zret (show j_ins mL_law 430 = some (65, 431, 0, 0, 1, 0, 0) from rfl) (bI_01 v)
set_option maxRecDepth 100000 in
theorem r_L_law_430_0 {d : Nat} {ls : List (Option Value)} {h : j_H} {Q : Option Value → j_H → Prop} : WP d mL_law 430 ls [.int (nI 0)] h Q = Q (some (.int (bI false))) h := w_zret (show j_ins mL_law 430 = some (65, 431, 0, 0, 1, 0, 0) from rfl) (Or.inl rfl)
set_option maxRecDepth 100000 in
theorem r_L_law_430_1 {d : Nat} {ls : List (Option Value)} {h : j_H} {Q : Option Value → j_H → Prop} : WP d mL_law 430 ls [.int (nI 1)] h Q = Q (some (.int (bI true))) h := w_zret (show j_ins mL_law 430 = some (65, 431, 0, 0, 1, 0, 0) from rfl) (Or.inr rfl)
set_option maxRecDepth 100000 in
theorem r_L_law_431 {d : Nat} {ls : List (Option Value)} {st : List Value} {h : j_H} {Q : Option Value → j_H → Prop} {l0 : Option Value} {v : Nat} : WP d mL_law 431 (l0 :: some (.ref v) :: ls) (st) h Q = WP d mL_law 432 (l0 :: some (.ref v) :: ls) (.ref v :: st) h Q := w_aload (show j_ins mL_law 431 = some (2, 432, 1, 0, 0, 0, 0) from rfl) rfl
set_option maxRecDepth 100000 in
theorem r_L_law_432 {d : Nat} {ls : List (Option Value)} {st : List Value} {h : j_H} {Q : Option Value → j_H → Prop} {v : Nat} : WP d mL_law 432 (some (.ref v) :: ls) (st) h Q = WP d mL_law 433 (some (.ref v) :: ls) (.ref v :: st) h Q := w_aload (show j_ins mL_law 432 = some (2, 433, 0, 0, 0, 0, 0) from rfl) rfl
set_option maxRecDepth 100000 in
theorem r_L_law_433 {d : Nat} {ls : List (Option Value)} {st : List Value} {h : j_H} {Q : Option Value → j_H → Prop} {l0 l1 l2 : Option Value} {v : Int32} : WP d mL_law 433 (l0 :: l1 :: l2 :: some (.int v) :: ls) (st) h Q = WP d mL_law 434 (l0 :: l1 :: l2 :: some (.int v) :: ls) (.int v :: st) h Q := w_iload (show j_ins mL_law 433 = some (0, 434, 3, 0, 0, 0, 0) from rfl) rfl
set_option maxRecDepth 100000 in
theorem r_L_law_434 {d : Nat} {ls : List (Option Value)} {st : List Value} {h : j_H} {Q : Option Value → j_H → Prop} : WP d mL_law 434 (ls) (st) h Q = WP d mL_law 435 (ls) (.int (nI 1) :: st) h Q := w_pushi (show j_ins mL_law 434 = some (6, 435, 0, 0, 1, 0, 0) from rfl) (by decide +kernel)
set_option maxRecDepth 100000 in
theorem r_L_law_435 {d : Nat} {ls : List (Option Value)} {st : List Value} {h : j_H} {Q : Option Value → j_H → Prop} {a b : Int32} : WP d mL_law 435 (ls) (.int b :: .int a :: st) h Q = WP d mL_law 436 (ls) (.int (a + b) :: st) h Q := w_iadd (show j_ins mL_law 435 = some (9, 436, 0, 0, 0, 0, 0) from rfl)
set_option maxRecDepth 100000 in
theorem r_L_law_436 {d : Nat} {ls : List (Option Value)} {st : List Value} {h : j_H} {Q : Option Value → j_H → Prop} {a : Nat} {i : Int32} : WP d mL_law 436 (ls) (.int i :: .ref a :: st) h Q = gI (hg h a) i (fun v => WP d mL_law 437 (ls) (.int v :: st) h Q) := w_iald (show j_ins mL_law 436 = some (49, 437, 0, 0, 0, 0, 0) from rfl)
set_option maxRecDepth 100000 in
theorem r_L_law_437 {d : Nat} {ls : List (Option Value)} {h : j_H} {Q : Option Value → j_H → Prop} {a0 : Nat} {a1 : Int32} : WP (d + 1) mL_law 437 ls [.int a1, .ref a0] h Q = gO (hg h a0) 10 (WP d mX10_order 0 [some (.ref a0), some (.int a1)] [] h (fun v h1 => WP (d + 1) mL_law 440 ls (pu v []) h1 Q)) := w_vir (k := 62) (ci := 10) (Or.inl rfl) (show j_ins mL_law 437 = some (62, 440, mX10_order, 1, 10, 61, 556) from rfl) rfl rfl rfl (Nat.le_of_ble_eq_true rfl) (Nat.le_of_ble_eq_true rfl) rfl
set_option maxRecDepth 100000 in
theorem r_L_law_440 {d : Nat} {ls : List (Option Value)} {st : List Value} {h : j_H} {Q : Option Value → j_H → Prop} {l0 l1 : Option Value} {v : Nat} : WP d mL_law 440 (l0 :: l1 :: some (.ref v) :: ls) (st) h Q = WP d mL_law 441 (l0 :: l1 :: some (.ref v) :: ls) (.ref v :: st) h Q := w_aload (show j_ins mL_law 440 = some (2, 441, 2, 0, 0, 0, 0) from rfl) rfl
set_option maxRecDepth 100000 in
theorem r_L_law_441 {d : Nat} {ls : List (Option Value)} {st : List Value} {h : j_H} {Q : Option Value → j_H → Prop} {v : Nat} : WP d mL_law 441 (some (.ref v) :: ls) (st) h Q = WP d mL_law 442 (some (.ref v) :: ls) (.ref v :: st) h Q := w_aload (show j_ins mL_law 441 = some (2, 442, 0, 0, 0, 0, 0) from rfl) rfl
set_option maxRecDepth 100000 in
theorem r_L_law_442 {d : Nat} {ls : List (Option Value)} {st : List Value} {h : j_H} {Q : Option Value → j_H → Prop} {l0 l1 l2 : Option Value} {v : Int32} : WP d mL_law 442 (l0 :: l1 :: l2 :: some (.int v) :: ls) (st) h Q = WP d mL_law 443 (l0 :: l1 :: l2 :: some (.int v) :: ls) (.int v :: st) h Q := w_iload (show j_ins mL_law 442 = some (0, 443, 3, 0, 0, 0, 0) from rfl) rfl
set_option maxRecDepth 100000 in
theorem r_L_law_443 {d : Nat} {ls : List (Option Value)} {st : List Value} {h : j_H} {Q : Option Value → j_H → Prop} : WP d mL_law 443 (ls) (st) h Q = WP d mL_law 444 (ls) (.int (nI 1) :: st) h Q := w_pushi (show j_ins mL_law 443 = some (6, 444, 0, 0, 1, 0, 0) from rfl) (by decide +kernel)
set_option maxRecDepth 100000 in
theorem r_L_law_444 {d : Nat} {ls : List (Option Value)} {st : List Value} {h : j_H} {Q : Option Value → j_H → Prop} {a b : Int32} : WP d mL_law 444 (ls) (.int b :: .int a :: st) h Q = WP d mL_law 445 (ls) (.int (a + b) :: st) h Q := w_iadd (show j_ins mL_law 444 = some (9, 445, 0, 0, 0, 0, 0) from rfl)
set_option maxRecDepth 100000 in
theorem r_L_law_445 {d : Nat} {ls : List (Option Value)} {st : List Value} {h : j_H} {Q : Option Value → j_H → Prop} {a : Nat} {i : Int32} : WP d mL_law 445 (ls) (.int i :: .ref a :: st) h Q = gI (hg h a) i (fun v => WP d mL_law 446 (ls) (.int v :: st) h Q) := w_iald (show j_ins mL_law 445 = some (49, 446, 0, 0, 0, 0, 0) from rfl)
set_option maxRecDepth 100000 in
theorem r_L_law_446 {d : Nat} {ls : List (Option Value)} {h : j_H} {Q : Option Value → j_H → Prop} {u0 : Value} {a0 : Nat} {a1 : Int32} : WP (d + 1) mL_law 446 ls [.int a1, .ref a0, u0] h Q = gO (hg h a0) 11 (WP d mX11_order 0 [some (.ref a0), some (.int a1), none] [] h (fun v h1 => WP (d + 1) mL_law 449 ls (pu v [u0]) h1 Q)) := w_vir (k := 62) (ci := 11) (Or.inl rfl) (show j_ins mL_law 446 = some (62, 449, mX11_order, 1, 11, 64, 976) from rfl) rfl rfl rfl (Nat.le_of_ble_eq_true rfl) (Nat.le_of_ble_eq_true rfl) rfl
set_option maxRecDepth 100000 in
theorem r_L_law_449 {d : Nat} {ls : List (Option Value)} {st : List Value} {h : j_H} {Q : Option Value → j_H → Prop} {a b : Int32} : WP d mL_law 449 (ls) (.int b :: .int a :: st) h Q = (if a = b then WP d mL_law 794 (ls) (st) h Q else WP d mL_law 452 (ls) (st) h Q) := w_iceq (show j_ins mL_law 449 = some (36, 452, 794, 0, 345, 0, 0) from rfl)
set_option maxRecDepth 100000 in
theorem r_L_law_452 {d : Nat} {ls : List (Option Value)} {st : List Value} {h : j_H} {Q : Option Value → j_H → Prop} : WP d mL_law 452 (ls) (st) h Q = WP d mL_law 453 (ls) (.int (nI 0) :: st) h Q := w_pushi (show j_ins mL_law 452 = some (6, 453, 0, 0, 0, 0, 0) from rfl) (by decide +kernel)
set_option maxRecDepth 100000 in
theorem r_L_law_453 {d : Nat} {ls : List (Option Value)} {h : j_H} {Q : Option Value → j_H → Prop} {v : Bool} : WP d mL_law 453 ls [.int (bI v)] h Q = Q (some (.int (bI v))) h := w_zret (show j_ins mL_law 453 = some (65, 454, 0, 0, 1, 0, 0) from rfl) (bI_01 v)
set_option maxRecDepth 100000 in
theorem r_L_law_453_0 {d : Nat} {ls : List (Option Value)} {h : j_H} {Q : Option Value → j_H → Prop} : WP d mL_law 453 ls [.int (nI 0)] h Q = Q (some (.int (bI false))) h := w_zret (show j_ins mL_law 453 = some (65, 454, 0, 0, 1, 0, 0) from rfl) (Or.inl rfl)
set_option maxRecDepth 100000 in
theorem r_L_law_453_1 {d : Nat} {ls : List (Option Value)} {h : j_H} {Q : Option Value → j_H → Prop} : WP d mL_law 453 ls [.int (nI 1)] h Q = Q (some (.int (bI true))) h := w_zret (show j_ins mL_law 453 = some (65, 454, 0, 0, 1, 0, 0) from rfl) (Or.inr rfl)
set_option maxRecDepth 100000 in
theorem r_L_law_454 {d : Nat} {ls : List (Option Value)} {st : List Value} {h : j_H} {Q : Option Value → j_H → Prop} {l0 : Option Value} {v : Nat} : WP d mL_law 454 (l0 :: some (.ref v) :: ls) (st) h Q = WP d mL_law 455 (l0 :: some (.ref v) :: ls) (.ref v :: st) h Q := w_aload (show j_ins mL_law 454 = some (2, 455, 1, 0, 0, 0, 0) from rfl) rfl
set_option maxRecDepth 100000 in
theorem r_L_law_455 {d : Nat} {ls : List (Option Value)} {st : List Value} {h : j_H} {Q : Option Value → j_H → Prop} {v : Nat} : WP d mL_law 455 (some (.ref v) :: ls) (st) h Q = WP d mL_law 456 (some (.ref v) :: ls) (.ref v :: st) h Q := w_aload (show j_ins mL_law 455 = some (2, 456, 0, 0, 0, 0, 0) from rfl) rfl
set_option maxRecDepth 100000 in
theorem r_L_law_456 {d : Nat} {ls : List (Option Value)} {st : List Value} {h : j_H} {Q : Option Value → j_H → Prop} {l0 l1 l2 : Option Value} {v : Int32} : WP d mL_law 456 (l0 :: l1 :: l2 :: some (.int v) :: ls) (st) h Q = WP d mL_law 457 (l0 :: l1 :: l2 :: some (.int v) :: ls) (.int v :: st) h Q := w_iload (show j_ins mL_law 456 = some (0, 457, 3, 0, 0, 0, 0) from rfl) rfl
set_option maxRecDepth 100000 in
theorem r_L_law_457 {d : Nat} {ls : List (Option Value)} {st : List Value} {h : j_H} {Q : Option Value → j_H → Prop} : WP d mL_law 457 (ls) (st) h Q = WP d mL_law 458 (ls) (.int (nI 1) :: st) h Q := w_pushi (show j_ins mL_law 457 = some (6, 458, 0, 0, 1, 0, 0) from rfl) (by decide +kernel)
set_option maxRecDepth 100000 in
theorem r_L_law_458 {d : Nat} {ls : List (Option Value)} {st : List Value} {h : j_H} {Q : Option Value → j_H → Prop} {a b : Int32} : WP d mL_law 458 (ls) (.int b :: .int a :: st) h Q = WP d mL_law 459 (ls) (.int (a + b) :: st) h Q := w_iadd (show j_ins mL_law 458 = some (9, 459, 0, 0, 0, 0, 0) from rfl)
set_option maxRecDepth 100000 in
theorem r_L_law_459 {d : Nat} {ls : List (Option Value)} {st : List Value} {h : j_H} {Q : Option Value → j_H → Prop} {a : Nat} {i : Int32} : WP d mL_law 459 (ls) (.int i :: .ref a :: st) h Q = gI (hg h a) i (fun v => WP d mL_law 460 (ls) (.int v :: st) h Q) := w_iald (show j_ins mL_law 459 = some (49, 460, 0, 0, 0, 0, 0) from rfl)
set_option maxRecDepth 100000 in
theorem r_L_law_460 {d : Nat} {ls : List (Option Value)} {st : List Value} {h : j_H} {Q : Option Value → j_H → Prop} {v : Nat} : WP d mL_law 460 (some (.ref v) :: ls) (st) h Q = WP d mL_law 461 (some (.ref v) :: ls) (.ref v :: st) h Q := w_aload (show j_ins mL_law 460 = some (2, 461, 0, 0, 0, 0, 0) from rfl) rfl
set_option maxRecDepth 100000 in
theorem r_L_law_461 {d : Nat} {ls : List (Option Value)} {st : List Value} {h : j_H} {Q : Option Value → j_H → Prop} {l0 l1 l2 : Option Value} {v : Int32} : WP d mL_law 461 (l0 :: l1 :: l2 :: some (.int v) :: ls) (st) h Q = WP d mL_law 462 (l0 :: l1 :: l2 :: some (.int v) :: ls) (.int v :: st) h Q := w_iload (show j_ins mL_law 461 = some (0, 462, 3, 0, 0, 0, 0) from rfl) rfl
set_option maxRecDepth 100000 in
theorem r_L_law_462 {d : Nat} {ls : List (Option Value)} {st : List Value} {h : j_H} {Q : Option Value → j_H → Prop} : WP d mL_law 462 (ls) (st) h Q = WP d mL_law 463 (ls) (.int (nI 2) :: st) h Q := w_pushi (show j_ins mL_law 462 = some (6, 463, 0, 0, 2, 0, 0) from rfl) (by decide +kernel)
set_option maxRecDepth 100000 in
theorem r_L_law_463 {d : Nat} {ls : List (Option Value)} {st : List Value} {h : j_H} {Q : Option Value → j_H → Prop} {a b : Int32} : WP d mL_law 463 (ls) (.int b :: .int a :: st) h Q = WP d mL_law 464 (ls) (.int (a + b) :: st) h Q := w_iadd (show j_ins mL_law 463 = some (9, 464, 0, 0, 0, 0, 0) from rfl)
set_option maxRecDepth 100000 in
theorem r_L_law_464 {d : Nat} {ls : List (Option Value)} {st : List Value} {h : j_H} {Q : Option Value → j_H → Prop} {a : Nat} {i : Int32} : WP d mL_law 464 (ls) (.int i :: .ref a :: st) h Q = gI (hg h a) i (fun v => WP d mL_law 465 (ls) (.int v :: st) h Q) := w_iald (show j_ins mL_law 464 = some (49, 465, 0, 0, 0, 0, 0) from rfl)
set_option maxRecDepth 100000 in
theorem r_L_law_465 {d : Nat} {ls : List (Option Value)} {h : j_H} {Q : Option Value → j_H → Prop} {a0 : Nat} {a1 : Int32} {a2 : Int32} : WP (d + 1) mL_law 465 ls [.int a2, .int a1, .ref a0] h Q = gO (hg h a0) 10 (WP d mX10_change 0 [some (.ref a0), some (.int a1), some (.int a2)] [] h (fun v h1 => WP (d + 1) mL_law 468 ls (pu v []) h1 Q)) := w_vir (k := 62) (ci := 10) (Or.inl rfl) (show j_ins mL_law 465 = some (62, 468, mX10_change, 2, 10, 65, 616) from rfl) rfl rfl rfl (Nat.le_of_ble_eq_true rfl) (Nat.le_of_ble_eq_true rfl) rfl
set_option maxRecDepth 100000 in
theorem r_L_law_468 {d : Nat} {ls : List (Option Value)} {st : List Value} {h : j_H} {Q : Option Value → j_H → Prop} {l0 l1 : Option Value} {v : Nat} : WP d mL_law 468 (l0 :: l1 :: some (.ref v) :: ls) (st) h Q = WP d mL_law 469 (l0 :: l1 :: some (.ref v) :: ls) (.ref v :: st) h Q := w_aload (show j_ins mL_law 468 = some (2, 469, 2, 0, 0, 0, 0) from rfl) rfl
set_option maxRecDepth 100000 in
theorem r_L_law_469 {d : Nat} {ls : List (Option Value)} {st : List Value} {h : j_H} {Q : Option Value → j_H → Prop} {v : Nat} : WP d mL_law 469 (some (.ref v) :: ls) (st) h Q = WP d mL_law 470 (some (.ref v) :: ls) (.ref v :: st) h Q := w_aload (show j_ins mL_law 469 = some (2, 470, 0, 0, 0, 0, 0) from rfl) rfl
set_option maxRecDepth 100000 in
theorem r_L_law_470 {d : Nat} {ls : List (Option Value)} {st : List Value} {h : j_H} {Q : Option Value → j_H → Prop} {l0 l1 l2 : Option Value} {v : Int32} : WP d mL_law 470 (l0 :: l1 :: l2 :: some (.int v) :: ls) (st) h Q = WP d mL_law 471 (l0 :: l1 :: l2 :: some (.int v) :: ls) (.int v :: st) h Q := w_iload (show j_ins mL_law 470 = some (0, 471, 3, 0, 0, 0, 0) from rfl) rfl
set_option maxRecDepth 100000 in
theorem r_L_law_471 {d : Nat} {ls : List (Option Value)} {st : List Value} {h : j_H} {Q : Option Value → j_H → Prop} : WP d mL_law 471 (ls) (st) h Q = WP d mL_law 472 (ls) (.int (nI 1) :: st) h Q := w_pushi (show j_ins mL_law 471 = some (6, 472, 0, 0, 1, 0, 0) from rfl) (by decide +kernel)
set_option maxRecDepth 100000 in
theorem r_L_law_472 {d : Nat} {ls : List (Option Value)} {st : List Value} {h : j_H} {Q : Option Value → j_H → Prop} {a b : Int32} : WP d mL_law 472 (ls) (.int b :: .int a :: st) h Q = WP d mL_law 473 (ls) (.int (a + b) :: st) h Q := w_iadd (show j_ins mL_law 472 = some (9, 473, 0, 0, 0, 0, 0) from rfl)
set_option maxRecDepth 100000 in
theorem r_L_law_473 {d : Nat} {ls : List (Option Value)} {st : List Value} {h : j_H} {Q : Option Value → j_H → Prop} {a : Nat} {i : Int32} : WP d mL_law 473 (ls) (.int i :: .ref a :: st) h Q = gI (hg h a) i (fun v => WP d mL_law 474 (ls) (.int v :: st) h Q) := w_iald (show j_ins mL_law 473 = some (49, 474, 0, 0, 0, 0, 0) from rfl)
set_option maxRecDepth 100000 in
theorem r_L_law_474 {d : Nat} {ls : List (Option Value)} {st : List Value} {h : j_H} {Q : Option Value → j_H → Prop} {v : Nat} : WP d mL_law 474 (some (.ref v) :: ls) (st) h Q = WP d mL_law 475 (some (.ref v) :: ls) (.ref v :: st) h Q := w_aload (show j_ins mL_law 474 = some (2, 475, 0, 0, 0, 0, 0) from rfl) rfl
set_option maxRecDepth 100000 in
theorem r_L_law_475 {d : Nat} {ls : List (Option Value)} {st : List Value} {h : j_H} {Q : Option Value → j_H → Prop} {l0 l1 l2 : Option Value} {v : Int32} : WP d mL_law 475 (l0 :: l1 :: l2 :: some (.int v) :: ls) (st) h Q = WP d mL_law 476 (l0 :: l1 :: l2 :: some (.int v) :: ls) (.int v :: st) h Q := w_iload (show j_ins mL_law 475 = some (0, 476, 3, 0, 0, 0, 0) from rfl) rfl
set_option maxRecDepth 100000 in
theorem r_L_law_476 {d : Nat} {ls : List (Option Value)} {st : List Value} {h : j_H} {Q : Option Value → j_H → Prop} : WP d mL_law 476 (ls) (st) h Q = WP d mL_law 477 (ls) (.int (nI 2) :: st) h Q := w_pushi (show j_ins mL_law 476 = some (6, 477, 0, 0, 2, 0, 0) from rfl) (by decide +kernel)
set_option maxRecDepth 100000 in
theorem r_L_law_477 {d : Nat} {ls : List (Option Value)} {st : List Value} {h : j_H} {Q : Option Value → j_H → Prop} {a b : Int32} : WP d mL_law 477 (ls) (.int b :: .int a :: st) h Q = WP d mL_law 478 (ls) (.int (a + b) :: st) h Q := w_iadd (show j_ins mL_law 477 = some (9, 478, 0, 0, 0, 0, 0) from rfl)
set_option maxRecDepth 100000 in
theorem r_L_law_478 {d : Nat} {ls : List (Option Value)} {st : List Value} {h : j_H} {Q : Option Value → j_H → Prop} {a : Nat} {i : Int32} : WP d mL_law 478 (ls) (.int i :: .ref a :: st) h Q = gI (hg h a) i (fun v => WP d mL_law 479 (ls) (.int v :: st) h Q) := w_iald (show j_ins mL_law 478 = some (49, 479, 0, 0, 0, 0, 0) from rfl)
set_option maxRecDepth 100000 in
theorem r_L_law_479 {d : Nat} {ls : List (Option Value)} {h : j_H} {Q : Option Value → j_H → Prop} {u0 : Value} {a0 : Nat} {a1 : Int32} {a2 : Int32} : WP (d + 1) mL_law 479 ls [.int a2, .int a1, .ref a0, u0] h Q = gO (hg h a0) 11 (WP d mX11_change 0 [some (.ref a0), some (.int a1), some (.int a2), none] [] h (fun v h1 => WP (d + 1) mL_law 482 ls (pu v [u0]) h1 Q)) := w_vir (k := 62) (ci := 11) (Or.inl rfl) (show j_ins mL_law 479 = some (62, 482, mX11_change, 2, 11, 68, 998) from rfl) rfl rfl rfl (Nat.le_of_ble_eq_true rfl) (Nat.le_of_ble_eq_true rfl) rfl
set_option maxRecDepth 100000 in
theorem r_L_law_482 {d : Nat} {ls : List (Option Value)} {st : List Value} {h : j_H} {Q : Option Value → j_H → Prop} {a b : Int32} : WP d mL_law 482 (ls) (.int b :: .int a :: st) h Q = (if a = b then WP d mL_law 794 (ls) (st) h Q else WP d mL_law 485 (ls) (st) h Q) := w_iceq (show j_ins mL_law 482 = some (36, 485, 794, 0, 312, 0, 0) from rfl)
set_option maxRecDepth 100000 in
theorem r_L_law_485 {d : Nat} {ls : List (Option Value)} {st : List Value} {h : j_H} {Q : Option Value → j_H → Prop} : WP d mL_law 485 (ls) (st) h Q = WP d mL_law 486 (ls) (.int (nI 0) :: st) h Q := w_pushi (show j_ins mL_law 485 = some (6, 486, 0, 0, 0, 0, 0) from rfl) (by decide +kernel)
set_option maxRecDepth 100000 in
theorem r_L_law_486 {d : Nat} {ls : List (Option Value)} {h : j_H} {Q : Option Value → j_H → Prop} {v : Bool} : WP d mL_law 486 ls [.int (bI v)] h Q = Q (some (.int (bI v))) h := w_zret (show j_ins mL_law 486 = some (65, 487, 0, 0, 1, 0, 0) from rfl) (bI_01 v)
set_option maxRecDepth 100000 in
theorem r_L_law_486_0 {d : Nat} {ls : List (Option Value)} {h : j_H} {Q : Option Value → j_H → Prop} : WP d mL_law 486 ls [.int (nI 0)] h Q = Q (some (.int (bI false))) h := w_zret (show j_ins mL_law 486 = some (65, 487, 0, 0, 1, 0, 0) from rfl) (Or.inl rfl)
set_option maxRecDepth 100000 in
theorem r_L_law_486_1 {d : Nat} {ls : List (Option Value)} {h : j_H} {Q : Option Value → j_H → Prop} : WP d mL_law 486 ls [.int (nI 1)] h Q = Q (some (.int (bI true))) h := w_zret (show j_ins mL_law 486 = some (65, 487, 0, 0, 1, 0, 0) from rfl) (Or.inr rfl)
set_option maxRecDepth 100000 in
theorem r_L_law_487 {d : Nat} {ls : List (Option Value)} {st : List Value} {h : j_H} {Q : Option Value → j_H → Prop} {l0 : Option Value} {v : Nat} : WP d mL_law 487 (l0 :: some (.ref v) :: ls) (st) h Q = WP d mL_law 488 (l0 :: some (.ref v) :: ls) (.ref v :: st) h Q := w_aload (show j_ins mL_law 487 = some (2, 488, 1, 0, 0, 0, 0) from rfl) rfl
set_option maxRecDepth 100000 in
theorem r_L_law_488 {d : Nat} {ls : List (Option Value)} {st : List Value} {h : j_H} {Q : Option Value → j_H → Prop} {v : Nat} : WP d mL_law 488 (some (.ref v) :: ls) (st) h Q = WP d mL_law 489 (some (.ref v) :: ls) (.ref v :: st) h Q := w_aload (show j_ins mL_law 488 = some (2, 489, 0, 0, 0, 0, 0) from rfl) rfl
set_option maxRecDepth 100000 in
theorem r_L_law_489 {d : Nat} {ls : List (Option Value)} {st : List Value} {h : j_H} {Q : Option Value → j_H → Prop} {l0 l1 l2 : Option Value} {v : Int32} : WP d mL_law 489 (l0 :: l1 :: l2 :: some (.int v) :: ls) (st) h Q = WP d mL_law 490 (l0 :: l1 :: l2 :: some (.int v) :: ls) (.int v :: st) h Q := w_iload (show j_ins mL_law 489 = some (0, 490, 3, 0, 0, 0, 0) from rfl) rfl
set_option maxRecDepth 100000 in
theorem r_L_law_490 {d : Nat} {ls : List (Option Value)} {st : List Value} {h : j_H} {Q : Option Value → j_H → Prop} : WP d mL_law 490 (ls) (st) h Q = WP d mL_law 491 (ls) (.int (nI 1) :: st) h Q := w_pushi (show j_ins mL_law 490 = some (6, 491, 0, 0, 1, 0, 0) from rfl) (by decide +kernel)
set_option maxRecDepth 100000 in
theorem r_L_law_491 {d : Nat} {ls : List (Option Value)} {st : List Value} {h : j_H} {Q : Option Value → j_H → Prop} {a b : Int32} : WP d mL_law 491 (ls) (.int b :: .int a :: st) h Q = WP d mL_law 492 (ls) (.int (a + b) :: st) h Q := w_iadd (show j_ins mL_law 491 = some (9, 492, 0, 0, 0, 0, 0) from rfl)
set_option maxRecDepth 100000 in
theorem r_L_law_492 {d : Nat} {ls : List (Option Value)} {st : List Value} {h : j_H} {Q : Option Value → j_H → Prop} {a : Nat} {i : Int32} : WP d mL_law 492 (ls) (.int i :: .ref a :: st) h Q = gI (hg h a) i (fun v => WP d mL_law 493 (ls) (.int v :: st) h Q) := w_iald (show j_ins mL_law 492 = some (49, 493, 0, 0, 0, 0, 0) from rfl)
set_option maxRecDepth 100000 in
theorem r_L_law_493 {d : Nat} {ls : List (Option Value)} {st : List Value} {h : j_H} {Q : Option Value → j_H → Prop} {v : Nat} : WP d mL_law 493 (some (.ref v) :: ls) (st) h Q = WP d mL_law 494 (some (.ref v) :: ls) (.ref v :: st) h Q := w_aload (show j_ins mL_law 493 = some (2, 494, 0, 0, 0, 0, 0) from rfl) rfl
set_option maxRecDepth 100000 in
theorem r_L_law_494 {d : Nat} {ls : List (Option Value)} {st : List Value} {h : j_H} {Q : Option Value → j_H → Prop} {l0 l1 l2 : Option Value} {v : Int32} : WP d mL_law 494 (l0 :: l1 :: l2 :: some (.int v) :: ls) (st) h Q = WP d mL_law 495 (l0 :: l1 :: l2 :: some (.int v) :: ls) (.int v :: st) h Q := w_iload (show j_ins mL_law 494 = some (0, 495, 3, 0, 0, 0, 0) from rfl) rfl
set_option maxRecDepth 100000 in
theorem r_L_law_495 {d : Nat} {ls : List (Option Value)} {st : List Value} {h : j_H} {Q : Option Value → j_H → Prop} : WP d mL_law 495 (ls) (st) h Q = WP d mL_law 496 (ls) (.int (nI 2) :: st) h Q := w_pushi (show j_ins mL_law 495 = some (6, 496, 0, 0, 2, 0, 0) from rfl) (by decide +kernel)
set_option maxRecDepth 100000 in
theorem r_L_law_496 {d : Nat} {ls : List (Option Value)} {st : List Value} {h : j_H} {Q : Option Value → j_H → Prop} {a b : Int32} : WP d mL_law 496 (ls) (.int b :: .int a :: st) h Q = WP d mL_law 497 (ls) (.int (a + b) :: st) h Q := w_iadd (show j_ins mL_law 496 = some (9, 497, 0, 0, 0, 0, 0) from rfl)
set_option maxRecDepth 100000 in
theorem r_L_law_497 {d : Nat} {ls : List (Option Value)} {st : List Value} {h : j_H} {Q : Option Value → j_H → Prop} {a : Nat} {i : Int32} : WP d mL_law 497 (ls) (.int i :: .ref a :: st) h Q = gI (hg h a) i (fun v => WP d mL_law 498 (ls) (.int v :: st) h Q) := w_iald (show j_ins mL_law 497 = some (49, 498, 0, 0, 0, 0, 0) from rfl)
set_option maxRecDepth 100000 in
theorem r_L_law_498 {d : Nat} {ls : List (Option Value)} {h : j_H} {Q : Option Value → j_H → Prop} {a0 : Nat} {a1 : Int32} {a2 : Int32} : WP (d + 1) mL_law 498 ls [.int a2, .int a1, .ref a0] h Q = gO (hg h a0) 10 (WP d mX10_node 0 [some (.ref a0), some (.int a1), some (.int a2), none] [] h (fun v h1 => WP (d + 1) mL_law 501 ls (pu v []) h1 Q)) := w_vir (k := 62) (ci := 10) (Or.inl rfl) (show j_ins mL_law 498 = some (62, 501, mX10_node, 2, 10, 69, 621) from rfl) rfl rfl rfl (Nat.le_of_ble_eq_true rfl) (Nat.le_of_ble_eq_true rfl) rfl
set_option maxRecDepth 100000 in
theorem r_L_law_501 {d : Nat} {ls : List (Option Value)} {st : List Value} {h : j_H} {Q : Option Value → j_H → Prop} {l0 l1 : Option Value} {v : Nat} : WP d mL_law 501 (l0 :: l1 :: some (.ref v) :: ls) (st) h Q = WP d mL_law 502 (l0 :: l1 :: some (.ref v) :: ls) (.ref v :: st) h Q := w_aload (show j_ins mL_law 501 = some (2, 502, 2, 0, 0, 0, 0) from rfl) rfl
set_option maxRecDepth 100000 in
theorem r_L_law_502 {d : Nat} {ls : List (Option Value)} {st : List Value} {h : j_H} {Q : Option Value → j_H → Prop} {v : Nat} : WP d mL_law 502 (some (.ref v) :: ls) (st) h Q = WP d mL_law 503 (some (.ref v) :: ls) (.ref v :: st) h Q := w_aload (show j_ins mL_law 502 = some (2, 503, 0, 0, 0, 0, 0) from rfl) rfl
set_option maxRecDepth 100000 in
theorem r_L_law_503 {d : Nat} {ls : List (Option Value)} {st : List Value} {h : j_H} {Q : Option Value → j_H → Prop} {l0 l1 l2 : Option Value} {v : Int32} : WP d mL_law 503 (l0 :: l1 :: l2 :: some (.int v) :: ls) (st) h Q = WP d mL_law 504 (l0 :: l1 :: l2 :: some (.int v) :: ls) (.int v :: st) h Q := w_iload (show j_ins mL_law 503 = some (0, 504, 3, 0, 0, 0, 0) from rfl) rfl
set_option maxRecDepth 100000 in
theorem r_L_law_504 {d : Nat} {ls : List (Option Value)} {st : List Value} {h : j_H} {Q : Option Value → j_H → Prop} : WP d mL_law 504 (ls) (st) h Q = WP d mL_law 505 (ls) (.int (nI 1) :: st) h Q := w_pushi (show j_ins mL_law 504 = some (6, 505, 0, 0, 1, 0, 0) from rfl) (by decide +kernel)
set_option maxRecDepth 100000 in
theorem r_L_law_505 {d : Nat} {ls : List (Option Value)} {st : List Value} {h : j_H} {Q : Option Value → j_H → Prop} {a b : Int32} : WP d mL_law 505 (ls) (.int b :: .int a :: st) h Q = WP d mL_law 506 (ls) (.int (a + b) :: st) h Q := w_iadd (show j_ins mL_law 505 = some (9, 506, 0, 0, 0, 0, 0) from rfl)
set_option maxRecDepth 100000 in
theorem r_L_law_506 {d : Nat} {ls : List (Option Value)} {st : List Value} {h : j_H} {Q : Option Value → j_H → Prop} {a : Nat} {i : Int32} : WP d mL_law 506 (ls) (.int i :: .ref a :: st) h Q = gI (hg h a) i (fun v => WP d mL_law 507 (ls) (.int v :: st) h Q) := w_iald (show j_ins mL_law 506 = some (49, 507, 0, 0, 0, 0, 0) from rfl)
set_option maxRecDepth 100000 in
theorem r_L_law_507 {d : Nat} {ls : List (Option Value)} {st : List Value} {h : j_H} {Q : Option Value → j_H → Prop} {v : Nat} : WP d mL_law 507 (some (.ref v) :: ls) (st) h Q = WP d mL_law 508 (some (.ref v) :: ls) (.ref v :: st) h Q := w_aload (show j_ins mL_law 507 = some (2, 508, 0, 0, 0, 0, 0) from rfl) rfl
set_option maxRecDepth 100000 in
theorem r_L_law_508 {d : Nat} {ls : List (Option Value)} {st : List Value} {h : j_H} {Q : Option Value → j_H → Prop} {l0 l1 l2 : Option Value} {v : Int32} : WP d mL_law 508 (l0 :: l1 :: l2 :: some (.int v) :: ls) (st) h Q = WP d mL_law 509 (l0 :: l1 :: l2 :: some (.int v) :: ls) (.int v :: st) h Q := w_iload (show j_ins mL_law 508 = some (0, 509, 3, 0, 0, 0, 0) from rfl) rfl
set_option maxRecDepth 100000 in
theorem r_L_law_509 {d : Nat} {ls : List (Option Value)} {st : List Value} {h : j_H} {Q : Option Value → j_H → Prop} : WP d mL_law 509 (ls) (st) h Q = WP d mL_law 510 (ls) (.int (nI 2) :: st) h Q := w_pushi (show j_ins mL_law 509 = some (6, 510, 0, 0, 2, 0, 0) from rfl) (by decide +kernel)
set_option maxRecDepth 100000 in
theorem r_L_law_510 {d : Nat} {ls : List (Option Value)} {st : List Value} {h : j_H} {Q : Option Value → j_H → Prop} {a b : Int32} : WP d mL_law 510 (ls) (.int b :: .int a :: st) h Q = WP d mL_law 511 (ls) (.int (a + b) :: st) h Q := w_iadd (show j_ins mL_law 510 = some (9, 511, 0, 0, 0, 0, 0) from rfl)
set_option maxRecDepth 100000 in
theorem r_L_law_511 {d : Nat} {ls : List (Option Value)} {st : List Value} {h : j_H} {Q : Option Value → j_H → Prop} {a : Nat} {i : Int32} : WP d mL_law 511 (ls) (.int i :: .ref a :: st) h Q = gI (hg h a) i (fun v => WP d mL_law 512 (ls) (.int v :: st) h Q) := w_iald (show j_ins mL_law 511 = some (49, 512, 0, 0, 0, 0, 0) from rfl)
set_option maxRecDepth 100000 in
theorem r_L_law_512 {d : Nat} {ls : List (Option Value)} {h : j_H} {Q : Option Value → j_H → Prop} {u0 : Value} {a0 : Nat} {a1 : Int32} {a2 : Int32} : WP (d + 1) mL_law 512 ls [.int a2, .int a1, .ref a0, u0] h Q = gO (hg h a0) 11 (WP d mX11_node 0 [some (.ref a0), some (.int a1), some (.int a2), none] [] h (fun v h1 => WP (d + 1) mL_law 515 ls (pu v [u0]) h1 Q)) := w_vir (k := 62) (ci := 11) (Or.inl rfl) (show j_ins mL_law 512 = some (62, 515, mX11_node, 2, 11, 72, 1002) from rfl) rfl rfl rfl (Nat.le_of_ble_eq_true rfl) (Nat.le_of_ble_eq_true rfl) rfl
set_option maxRecDepth 100000 in
theorem r_L_law_515 {d : Nat} {ls : List (Option Value)} {st : List Value} {h : j_H} {Q : Option Value → j_H → Prop} {a b : Int32} : WP d mL_law 515 (ls) (.int b :: .int a :: st) h Q = (if a = b then WP d mL_law 794 (ls) (st) h Q else WP d mL_law 518 (ls) (st) h Q) := w_iceq (show j_ins mL_law 515 = some (36, 518, 794, 0, 279, 0, 0) from rfl)
set_option maxRecDepth 100000 in
theorem r_L_law_518 {d : Nat} {ls : List (Option Value)} {st : List Value} {h : j_H} {Q : Option Value → j_H → Prop} : WP d mL_law 518 (ls) (st) h Q = WP d mL_law 519 (ls) (.int (nI 0) :: st) h Q := w_pushi (show j_ins mL_law 518 = some (6, 519, 0, 0, 0, 0, 0) from rfl) (by decide +kernel)
set_option maxRecDepth 100000 in
theorem r_L_law_519 {d : Nat} {ls : List (Option Value)} {h : j_H} {Q : Option Value → j_H → Prop} {v : Bool} : WP d mL_law 519 ls [.int (bI v)] h Q = Q (some (.int (bI v))) h := w_zret (show j_ins mL_law 519 = some (65, 520, 0, 0, 1, 0, 0) from rfl) (bI_01 v)
set_option maxRecDepth 100000 in
theorem r_L_law_519_0 {d : Nat} {ls : List (Option Value)} {h : j_H} {Q : Option Value → j_H → Prop} : WP d mL_law 519 ls [.int (nI 0)] h Q = Q (some (.int (bI false))) h := w_zret (show j_ins mL_law 519 = some (65, 520, 0, 0, 1, 0, 0) from rfl) (Or.inl rfl)
set_option maxRecDepth 100000 in
theorem r_L_law_519_1 {d : Nat} {ls : List (Option Value)} {h : j_H} {Q : Option Value → j_H → Prop} : WP d mL_law 519 ls [.int (nI 1)] h Q = Q (some (.int (bI true))) h := w_zret (show j_ins mL_law 519 = some (65, 520, 0, 0, 1, 0, 0) from rfl) (Or.inr rfl)
set_option maxRecDepth 100000 in
theorem r_L_law_520 {d : Nat} {ls : List (Option Value)} {st : List Value} {h : j_H} {Q : Option Value → j_H → Prop} {l0 : Option Value} {v : Nat} : WP d mL_law 520 (l0 :: some (.ref v) :: ls) (st) h Q = WP d mL_law 521 (l0 :: some (.ref v) :: ls) (.ref v :: st) h Q := w_aload (show j_ins mL_law 520 = some (2, 521, 1, 0, 0, 0, 0) from rfl) rfl
set_option maxRecDepth 100000 in
theorem r_L_law_521 {d : Nat} {ls : List (Option Value)} {st : List Value} {h : j_H} {Q : Option Value → j_H → Prop} {v : Nat} : WP d mL_law 521 (some (.ref v) :: ls) (st) h Q = WP d mL_law 522 (some (.ref v) :: ls) (.ref v :: st) h Q := w_aload (show j_ins mL_law 521 = some (2, 522, 0, 0, 0, 0, 0) from rfl) rfl
set_option maxRecDepth 100000 in
theorem r_L_law_522 {d : Nat} {ls : List (Option Value)} {st : List Value} {h : j_H} {Q : Option Value → j_H → Prop} {l0 l1 l2 : Option Value} {v : Int32} : WP d mL_law 522 (l0 :: l1 :: l2 :: some (.int v) :: ls) (st) h Q = WP d mL_law 523 (l0 :: l1 :: l2 :: some (.int v) :: ls) (.int v :: st) h Q := w_iload (show j_ins mL_law 522 = some (0, 523, 3, 0, 0, 0, 0) from rfl) rfl
set_option maxRecDepth 100000 in
theorem r_L_law_523 {d : Nat} {ls : List (Option Value)} {st : List Value} {h : j_H} {Q : Option Value → j_H → Prop} : WP d mL_law 523 (ls) (st) h Q = WP d mL_law 524 (ls) (.int (nI 1) :: st) h Q := w_pushi (show j_ins mL_law 523 = some (6, 524, 0, 0, 1, 0, 0) from rfl) (by decide +kernel)
set_option maxRecDepth 100000 in
theorem r_L_law_524 {d : Nat} {ls : List (Option Value)} {st : List Value} {h : j_H} {Q : Option Value → j_H → Prop} {a b : Int32} : WP d mL_law 524 (ls) (.int b :: .int a :: st) h Q = WP d mL_law 525 (ls) (.int (a + b) :: st) h Q := w_iadd (show j_ins mL_law 524 = some (9, 525, 0, 0, 0, 0, 0) from rfl)
set_option maxRecDepth 100000 in
theorem r_L_law_525 {d : Nat} {ls : List (Option Value)} {st : List Value} {h : j_H} {Q : Option Value → j_H → Prop} {a : Nat} {i : Int32} : WP d mL_law 525 (ls) (.int i :: .ref a :: st) h Q = gI (hg h a) i (fun v => WP d mL_law 526 (ls) (.int v :: st) h Q) := w_iald (show j_ins mL_law 525 = some (49, 526, 0, 0, 0, 0, 0) from rfl)
set_option maxRecDepth 100000 in
theorem r_L_law_526 {d : Nat} {ls : List (Option Value)} {h : j_H} {Q : Option Value → j_H → Prop} {a0 : Nat} {a1 : Int32} : WP (d + 1) mL_law 526 ls [.int a1, .ref a0] h Q = gO (hg h a0) 10 (WP d mX10_going 0 [some (.ref a0), some (.int a1)] [] h (fun v h1 => WP (d + 1) mL_law 529 ls (pu v []) h1 Q)) := w_vir (k := 62) (ci := 10) (Or.inl rfl) (show j_ins mL_law 526 = some (62, 529, mX10_going, 1, 10, 73, 626) from rfl) rfl rfl rfl (Nat.le_of_ble_eq_true rfl) (Nat.le_of_ble_eq_true rfl) rfl
set_option maxRecDepth 100000 in
theorem r_L_law_529 {d : Nat} {ls : List (Option Value)} {st : List Value} {h : j_H} {Q : Option Value → j_H → Prop} {l0 l1 : Option Value} {v : Nat} : WP d mL_law 529 (l0 :: l1 :: some (.ref v) :: ls) (st) h Q = WP d mL_law 530 (l0 :: l1 :: some (.ref v) :: ls) (.ref v :: st) h Q := w_aload (show j_ins mL_law 529 = some (2, 530, 2, 0, 0, 0, 0) from rfl) rfl
set_option maxRecDepth 100000 in
theorem r_L_law_530 {d : Nat} {ls : List (Option Value)} {st : List Value} {h : j_H} {Q : Option Value → j_H → Prop} {v : Nat} : WP d mL_law 530 (some (.ref v) :: ls) (st) h Q = WP d mL_law 531 (some (.ref v) :: ls) (.ref v :: st) h Q := w_aload (show j_ins mL_law 530 = some (2, 531, 0, 0, 0, 0, 0) from rfl) rfl
set_option maxRecDepth 100000 in
theorem r_L_law_531 {d : Nat} {ls : List (Option Value)} {st : List Value} {h : j_H} {Q : Option Value → j_H → Prop} {l0 l1 l2 : Option Value} {v : Int32} : WP d mL_law 531 (l0 :: l1 :: l2 :: some (.int v) :: ls) (st) h Q = WP d mL_law 532 (l0 :: l1 :: l2 :: some (.int v) :: ls) (.int v :: st) h Q := w_iload (show j_ins mL_law 531 = some (0, 532, 3, 0, 0, 0, 0) from rfl) rfl
set_option maxRecDepth 100000 in
theorem r_L_law_532 {d : Nat} {ls : List (Option Value)} {st : List Value} {h : j_H} {Q : Option Value → j_H → Prop} : WP d mL_law 532 (ls) (st) h Q = WP d mL_law 533 (ls) (.int (nI 1) :: st) h Q := w_pushi (show j_ins mL_law 532 = some (6, 533, 0, 0, 1, 0, 0) from rfl) (by decide +kernel)
set_option maxRecDepth 100000 in
theorem r_L_law_533 {d : Nat} {ls : List (Option Value)} {st : List Value} {h : j_H} {Q : Option Value → j_H → Prop} {a b : Int32} : WP d mL_law 533 (ls) (.int b :: .int a :: st) h Q = WP d mL_law 534 (ls) (.int (a + b) :: st) h Q := w_iadd (show j_ins mL_law 533 = some (9, 534, 0, 0, 0, 0, 0) from rfl)
set_option maxRecDepth 100000 in
theorem r_L_law_534 {d : Nat} {ls : List (Option Value)} {st : List Value} {h : j_H} {Q : Option Value → j_H → Prop} {a : Nat} {i : Int32} : WP d mL_law 534 (ls) (.int i :: .ref a :: st) h Q = gI (hg h a) i (fun v => WP d mL_law 535 (ls) (.int v :: st) h Q) := w_iald (show j_ins mL_law 534 = some (49, 535, 0, 0, 0, 0, 0) from rfl)
set_option maxRecDepth 100000 in
theorem r_L_law_535 {d : Nat} {ls : List (Option Value)} {h : j_H} {Q : Option Value → j_H → Prop} {u0 : Value} {a0 : Nat} {a1 : Int32} : WP (d + 1) mL_law 535 ls [.int a1, .ref a0, u0] h Q = gO (hg h a0) 11 (WP d mX11_going 0 [some (.ref a0), some (.int a1)] [] h (fun v h1 => WP (d + 1) mL_law 538 ls (pu v [u0]) h1 Q)) := w_vir (k := 62) (ci := 11) (Or.inl rfl) (show j_ins mL_law 535 = some (62, 538, mX11_going, 1, 11, 76, 1010) from rfl) rfl rfl rfl (Nat.le_of_ble_eq_true rfl) (Nat.le_of_ble_eq_true rfl) rfl
set_option maxRecDepth 100000 in
theorem r_L_law_538 {d : Nat} {ls : List (Option Value)} {st : List Value} {h : j_H} {Q : Option Value → j_H → Prop} {a b : Int32} : WP d mL_law 538 (ls) (.int b :: .int a :: st) h Q = (if a = b then WP d mL_law 794 (ls) (st) h Q else WP d mL_law 541 (ls) (st) h Q) := w_iceq (show j_ins mL_law 538 = some (36, 541, 794, 0, 256, 0, 0) from rfl)
set_option maxRecDepth 100000 in
theorem r_L_law_541 {d : Nat} {ls : List (Option Value)} {st : List Value} {h : j_H} {Q : Option Value → j_H → Prop} : WP d mL_law 541 (ls) (st) h Q = WP d mL_law 542 (ls) (.int (nI 0) :: st) h Q := w_pushi (show j_ins mL_law 541 = some (6, 542, 0, 0, 0, 0, 0) from rfl) (by decide +kernel)
set_option maxRecDepth 100000 in
theorem r_L_law_542 {d : Nat} {ls : List (Option Value)} {h : j_H} {Q : Option Value → j_H → Prop} {v : Bool} : WP d mL_law 542 ls [.int (bI v)] h Q = Q (some (.int (bI v))) h := w_zret (show j_ins mL_law 542 = some (65, 543, 0, 0, 1, 0, 0) from rfl) (bI_01 v)
set_option maxRecDepth 100000 in
theorem r_L_law_542_0 {d : Nat} {ls : List (Option Value)} {h : j_H} {Q : Option Value → j_H → Prop} : WP d mL_law 542 ls [.int (nI 0)] h Q = Q (some (.int (bI false))) h := w_zret (show j_ins mL_law 542 = some (65, 543, 0, 0, 1, 0, 0) from rfl) (Or.inl rfl)
set_option maxRecDepth 100000 in
theorem r_L_law_542_1 {d : Nat} {ls : List (Option Value)} {h : j_H} {Q : Option Value → j_H → Prop} : WP d mL_law 542 ls [.int (nI 1)] h Q = Q (some (.int (bI true))) h := w_zret (show j_ins mL_law 542 = some (65, 543, 0, 0, 1, 0, 0) from rfl) (Or.inr rfl)
set_option maxRecDepth 100000 in
theorem r_L_law_543 {d : Nat} {ls : List (Option Value)} {st : List Value} {h : j_H} {Q : Option Value → j_H → Prop} {l0 : Option Value} {v : Nat} : WP d mL_law 543 (l0 :: some (.ref v) :: ls) (st) h Q = WP d mL_law 544 (l0 :: some (.ref v) :: ls) (.ref v :: st) h Q := w_aload (show j_ins mL_law 543 = some (2, 544, 1, 0, 0, 0, 0) from rfl) rfl
set_option maxRecDepth 100000 in
theorem r_L_law_544 {d : Nat} {ls : List (Option Value)} {st : List Value} {h : j_H} {Q : Option Value → j_H → Prop} {v : Nat} : WP d mL_law 544 (some (.ref v) :: ls) (st) h Q = WP d mL_law 545 (some (.ref v) :: ls) (.ref v :: st) h Q := w_aload (show j_ins mL_law 544 = some (2, 545, 0, 0, 0, 0, 0) from rfl) rfl
set_option maxRecDepth 100000 in
theorem r_L_law_545 {d : Nat} {ls : List (Option Value)} {st : List Value} {h : j_H} {Q : Option Value → j_H → Prop} {l0 l1 l2 : Option Value} {v : Int32} : WP d mL_law 545 (l0 :: l1 :: l2 :: some (.int v) :: ls) (st) h Q = WP d mL_law 546 (l0 :: l1 :: l2 :: some (.int v) :: ls) (.int v :: st) h Q := w_iload (show j_ins mL_law 545 = some (0, 546, 3, 0, 0, 0, 0) from rfl) rfl
set_option maxRecDepth 100000 in
theorem r_L_law_546 {d : Nat} {ls : List (Option Value)} {st : List Value} {h : j_H} {Q : Option Value → j_H → Prop} : WP d mL_law 546 (ls) (st) h Q = WP d mL_law 547 (ls) (.int (nI 1) :: st) h Q := w_pushi (show j_ins mL_law 546 = some (6, 547, 0, 0, 1, 0, 0) from rfl) (by decide +kernel)
set_option maxRecDepth 100000 in
theorem r_L_law_547 {d : Nat} {ls : List (Option Value)} {st : List Value} {h : j_H} {Q : Option Value → j_H → Prop} {a b : Int32} : WP d mL_law 547 (ls) (.int b :: .int a :: st) h Q = WP d mL_law 548 (ls) (.int (a + b) :: st) h Q := w_iadd (show j_ins mL_law 547 = some (9, 548, 0, 0, 0, 0, 0) from rfl)
set_option maxRecDepth 100000 in
theorem r_L_law_548 {d : Nat} {ls : List (Option Value)} {st : List Value} {h : j_H} {Q : Option Value → j_H → Prop} {a : Nat} {i : Int32} : WP d mL_law 548 (ls) (.int i :: .ref a :: st) h Q = gI (hg h a) i (fun v => WP d mL_law 549 (ls) (.int v :: st) h Q) := w_iald (show j_ins mL_law 548 = some (49, 549, 0, 0, 0, 0, 0) from rfl)
set_option maxRecDepth 100000 in
theorem r_L_law_549 {d : Nat} {ls : List (Option Value)} {h : j_H} {Q : Option Value → j_H → Prop} {a0 : Nat} {a1 : Int32} : WP (d + 1) mL_law 549 ls [.int a1, .ref a0] h Q = gO (hg h a0) 10 (WP d mX10_prime 0 [some (.ref a0), some (.int a1), none] [] h (fun v h1 => WP (d + 1) mL_law 552 ls (pu v []) h1 Q)) := w_vir (k := 62) (ci := 10) (Or.inl rfl) (show j_ins mL_law 549 = some (62, 552, mX10_prime, 1, 10, 77, 630) from rfl) rfl rfl rfl (Nat.le_of_ble_eq_true rfl) (Nat.le_of_ble_eq_true rfl) rfl
set_option maxRecDepth 100000 in
theorem r_L_law_552 {d : Nat} {ls : List (Option Value)} {st : List Value} {h : j_H} {Q : Option Value → j_H → Prop} {l0 l1 : Option Value} {v : Nat} : WP d mL_law 552 (l0 :: l1 :: some (.ref v) :: ls) (st) h Q = WP d mL_law 553 (l0 :: l1 :: some (.ref v) :: ls) (.ref v :: st) h Q := w_aload (show j_ins mL_law 552 = some (2, 553, 2, 0, 0, 0, 0) from rfl) rfl
set_option maxRecDepth 100000 in
theorem r_L_law_553 {d : Nat} {ls : List (Option Value)} {st : List Value} {h : j_H} {Q : Option Value → j_H → Prop} {v : Nat} : WP d mL_law 553 (some (.ref v) :: ls) (st) h Q = WP d mL_law 554 (some (.ref v) :: ls) (.ref v :: st) h Q := w_aload (show j_ins mL_law 553 = some (2, 554, 0, 0, 0, 0, 0) from rfl) rfl
set_option maxRecDepth 100000 in
theorem r_L_law_554 {d : Nat} {ls : List (Option Value)} {st : List Value} {h : j_H} {Q : Option Value → j_H → Prop} {l0 l1 l2 : Option Value} {v : Int32} : WP d mL_law 554 (l0 :: l1 :: l2 :: some (.int v) :: ls) (st) h Q = WP d mL_law 555 (l0 :: l1 :: l2 :: some (.int v) :: ls) (.int v :: st) h Q := w_iload (show j_ins mL_law 554 = some (0, 555, 3, 0, 0, 0, 0) from rfl) rfl
set_option maxRecDepth 100000 in
theorem r_L_law_555 {d : Nat} {ls : List (Option Value)} {st : List Value} {h : j_H} {Q : Option Value → j_H → Prop} : WP d mL_law 555 (ls) (st) h Q = WP d mL_law 556 (ls) (.int (nI 1) :: st) h Q := w_pushi (show j_ins mL_law 555 = some (6, 556, 0, 0, 1, 0, 0) from rfl) (by decide +kernel)
set_option maxRecDepth 100000 in
theorem r_L_law_556 {d : Nat} {ls : List (Option Value)} {st : List Value} {h : j_H} {Q : Option Value → j_H → Prop} {a b : Int32} : WP d mL_law 556 (ls) (.int b :: .int a :: st) h Q = WP d mL_law 557 (ls) (.int (a + b) :: st) h Q := w_iadd (show j_ins mL_law 556 = some (9, 557, 0, 0, 0, 0, 0) from rfl)
set_option maxRecDepth 100000 in
theorem r_L_law_557 {d : Nat} {ls : List (Option Value)} {st : List Value} {h : j_H} {Q : Option Value → j_H → Prop} {a : Nat} {i : Int32} : WP d mL_law 557 (ls) (.int i :: .ref a :: st) h Q = gI (hg h a) i (fun v => WP d mL_law 558 (ls) (.int v :: st) h Q) := w_iald (show j_ins mL_law 557 = some (49, 558, 0, 0, 0, 0, 0) from rfl)
set_option maxRecDepth 100000 in
theorem r_L_law_558 {d : Nat} {ls : List (Option Value)} {h : j_H} {Q : Option Value → j_H → Prop} {u0 : Value} {a0 : Nat} {a1 : Int32} : WP (d + 1) mL_law 558 ls [.int a1, .ref a0, u0] h Q = gO (hg h a0) 11 (WP d mX11_prime 0 [some (.ref a0), some (.int a1), none] [] h (fun v h1 => WP (d + 1) mL_law 561 ls (pu v [u0]) h1 Q)) := w_vir (k := 62) (ci := 11) (Or.inl rfl) (show j_ins mL_law 558 = some (62, 561, mX11_prime, 1, 11, 80, 1018) from rfl) rfl rfl rfl (Nat.le_of_ble_eq_true rfl) (Nat.le_of_ble_eq_true rfl) rfl
set_option maxRecDepth 100000 in
theorem r_L_law_561 {d : Nat} {ls : List (Option Value)} {st : List Value} {h : j_H} {Q : Option Value → j_H → Prop} {a b : Int32} : WP d mL_law 561 (ls) (.int b :: .int a :: st) h Q = (if a = b then WP d mL_law 794 (ls) (st) h Q else WP d mL_law 564 (ls) (st) h Q) := w_iceq (show j_ins mL_law 561 = some (36, 564, 794, 0, 233, 0, 0) from rfl)
set_option maxRecDepth 100000 in
theorem r_L_law_564 {d : Nat} {ls : List (Option Value)} {st : List Value} {h : j_H} {Q : Option Value → j_H → Prop} : WP d mL_law 564 (ls) (st) h Q = WP d mL_law 565 (ls) (.int (nI 0) :: st) h Q := w_pushi (show j_ins mL_law 564 = some (6, 565, 0, 0, 0, 0, 0) from rfl) (by decide +kernel)
set_option maxRecDepth 100000 in
theorem r_L_law_565 {d : Nat} {ls : List (Option Value)} {h : j_H} {Q : Option Value → j_H → Prop} {v : Bool} : WP d mL_law 565 ls [.int (bI v)] h Q = Q (some (.int (bI v))) h := w_zret (show j_ins mL_law 565 = some (65, 566, 0, 0, 1, 0, 0) from rfl) (bI_01 v)
set_option maxRecDepth 100000 in
theorem r_L_law_565_0 {d : Nat} {ls : List (Option Value)} {h : j_H} {Q : Option Value → j_H → Prop} : WP d mL_law 565 ls [.int (nI 0)] h Q = Q (some (.int (bI false))) h := w_zret (show j_ins mL_law 565 = some (65, 566, 0, 0, 1, 0, 0) from rfl) (Or.inl rfl)
set_option maxRecDepth 100000 in
theorem r_L_law_565_1 {d : Nat} {ls : List (Option Value)} {h : j_H} {Q : Option Value → j_H → Prop} : WP d mL_law 565 ls [.int (nI 1)] h Q = Q (some (.int (bI true))) h := w_zret (show j_ins mL_law 565 = some (65, 566, 0, 0, 1, 0, 0) from rfl) (Or.inr rfl)
set_option maxRecDepth 100000 in
theorem r_L_law_566 {d : Nat} {ls : List (Option Value)} {st : List Value} {h : j_H} {Q : Option Value → j_H → Prop} {l0 : Option Value} {v : Nat} : WP d mL_law 566 (l0 :: some (.ref v) :: ls) (st) h Q = WP d mL_law 567 (l0 :: some (.ref v) :: ls) (.ref v :: st) h Q := w_aload (show j_ins mL_law 566 = some (2, 567, 1, 0, 0, 0, 0) from rfl) rfl
set_option maxRecDepth 100000 in
theorem r_L_law_567 {d : Nat} {ls : List (Option Value)} {h : j_H} {Q : Option Value → j_H → Prop} {a0 : Nat} : WP (d + 1) mL_law 567 ls [.ref a0] h Q = gO (hg h a0) 10 (WP d mX10_stop 0 [some (.ref a0)] [] h (fun v h1 => WP (d + 1) mL_law 570 ls (pu v []) h1 Q)) := w_vir (k := 62) (ci := 10) (Or.inl rfl) (show j_ins mL_law 567 = some (62, 570, mX10_stop, 0, 10, 81, 638) from rfl) rfl rfl rfl (Nat.le_of_ble_eq_true rfl) (Nat.le_of_ble_eq_true rfl) rfl
set_option maxRecDepth 100000 in
theorem r_L_law_570 {d : Nat} {ls : List (Option Value)} {st : List Value} {h : j_H} {Q : Option Value → j_H → Prop} {l0 l1 : Option Value} {v : Nat} : WP d mL_law 570 (l0 :: l1 :: some (.ref v) :: ls) (st) h Q = WP d mL_law 571 (l0 :: l1 :: some (.ref v) :: ls) (.ref v :: st) h Q := w_aload (show j_ins mL_law 570 = some (2, 571, 2, 0, 0, 0, 0) from rfl) rfl
set_option maxRecDepth 100000 in
theorem r_L_law_571 {d : Nat} {ls : List (Option Value)} {h : j_H} {Q : Option Value → j_H → Prop} {u0 : Value} {a0 : Nat} : WP (d + 1) mL_law 571 ls [.ref a0, u0] h Q = gO (hg h a0) 11 (WP d mX11_stop 0 [some (.ref a0)] [] h (fun v h1 => WP (d + 1) mL_law 574 ls (pu v [u0]) h1 Q)) := w_vir (k := 62) (ci := 11) (Or.inl rfl) (show j_ins mL_law 571 = some (62, 574, mX11_stop, 0, 11, 84, 1024) from rfl) rfl rfl rfl (Nat.le_of_ble_eq_true rfl) (Nat.le_of_ble_eq_true rfl) rfl
set_option maxRecDepth 100000 in
theorem r_L_law_574 {d : Nat} {ls : List (Option Value)} {st : List Value} {h : j_H} {Q : Option Value → j_H → Prop} {a b : Int32} : WP d mL_law 574 (ls) (.int b :: .int a :: st) h Q = (if a = b then WP d mL_law 794 (ls) (st) h Q else WP d mL_law 577 (ls) (st) h Q) := w_iceq (show j_ins mL_law 574 = some (36, 577, 794, 0, 220, 0, 0) from rfl)
set_option maxRecDepth 100000 in
theorem r_L_law_577 {d : Nat} {ls : List (Option Value)} {st : List Value} {h : j_H} {Q : Option Value → j_H → Prop} : WP d mL_law 577 (ls) (st) h Q = WP d mL_law 578 (ls) (.int (nI 0) :: st) h Q := w_pushi (show j_ins mL_law 577 = some (6, 578, 0, 0, 0, 0, 0) from rfl) (by decide +kernel)
set_option maxRecDepth 100000 in
theorem r_L_law_578 {d : Nat} {ls : List (Option Value)} {h : j_H} {Q : Option Value → j_H → Prop} {v : Bool} : WP d mL_law 578 ls [.int (bI v)] h Q = Q (some (.int (bI v))) h := w_zret (show j_ins mL_law 578 = some (65, 579, 0, 0, 1, 0, 0) from rfl) (bI_01 v)
set_option maxRecDepth 100000 in
theorem r_L_law_578_0 {d : Nat} {ls : List (Option Value)} {h : j_H} {Q : Option Value → j_H → Prop} : WP d mL_law 578 ls [.int (nI 0)] h Q = Q (some (.int (bI false))) h := w_zret (show j_ins mL_law 578 = some (65, 579, 0, 0, 1, 0, 0) from rfl) (Or.inl rfl)
set_option maxRecDepth 100000 in
theorem r_L_law_578_1 {d : Nat} {ls : List (Option Value)} {h : j_H} {Q : Option Value → j_H → Prop} : WP d mL_law 578 ls [.int (nI 1)] h Q = Q (some (.int (bI true))) h := w_zret (show j_ins mL_law 578 = some (65, 579, 0, 0, 1, 0, 0) from rfl) (Or.inr rfl)
set_option maxRecDepth 100000 in
theorem r_L_law_579 {d : Nat} {ls : List (Option Value)} {st : List Value} {h : j_H} {Q : Option Value → j_H → Prop} {l0 : Option Value} {v : Nat} : WP d mL_law 579 (l0 :: some (.ref v) :: ls) (st) h Q = WP d mL_law 580 (l0 :: some (.ref v) :: ls) (.ref v :: st) h Q := w_aload (show j_ins mL_law 579 = some (2, 580, 1, 0, 0, 0, 0) from rfl) rfl
set_option maxRecDepth 100000 in
theorem r_L_law_580 {d : Nat} {ls : List (Option Value)} {st : List Value} {h : j_H} {Q : Option Value → j_H → Prop} {v : Nat} : WP d mL_law 580 (some (.ref v) :: ls) (st) h Q = WP d mL_law 581 (some (.ref v) :: ls) (.ref v :: st) h Q := w_aload (show j_ins mL_law 580 = some (2, 581, 0, 0, 0, 0, 0) from rfl) rfl
set_option maxRecDepth 100000 in
theorem r_L_law_581 {d : Nat} {ls : List (Option Value)} {st : List Value} {h : j_H} {Q : Option Value → j_H → Prop} {l0 l1 l2 : Option Value} {v : Int32} : WP d mL_law 581 (l0 :: l1 :: l2 :: some (.int v) :: ls) (st) h Q = WP d mL_law 582 (l0 :: l1 :: l2 :: some (.int v) :: ls) (.int v :: st) h Q := w_iload (show j_ins mL_law 581 = some (0, 582, 3, 0, 0, 0, 0) from rfl) rfl
set_option maxRecDepth 100000 in
theorem r_L_law_582 {d : Nat} {ls : List (Option Value)} {st : List Value} {h : j_H} {Q : Option Value → j_H → Prop} : WP d mL_law 582 (ls) (st) h Q = WP d mL_law 583 (ls) (.int (nI 1) :: st) h Q := w_pushi (show j_ins mL_law 582 = some (6, 583, 0, 0, 1, 0, 0) from rfl) (by decide +kernel)
set_option maxRecDepth 100000 in
theorem r_L_law_583 {d : Nat} {ls : List (Option Value)} {st : List Value} {h : j_H} {Q : Option Value → j_H → Prop} {a b : Int32} : WP d mL_law 583 (ls) (.int b :: .int a :: st) h Q = WP d mL_law 584 (ls) (.int (a + b) :: st) h Q := w_iadd (show j_ins mL_law 583 = some (9, 584, 0, 0, 0, 0, 0) from rfl)
set_option maxRecDepth 100000 in
theorem r_L_law_584 {d : Nat} {ls : List (Option Value)} {st : List Value} {h : j_H} {Q : Option Value → j_H → Prop} {a : Nat} {i : Int32} : WP d mL_law 584 (ls) (.int i :: .ref a :: st) h Q = gI (hg h a) i (fun v => WP d mL_law 585 (ls) (.int v :: st) h Q) := w_iald (show j_ins mL_law 584 = some (49, 585, 0, 0, 0, 0, 0) from rfl)
set_option maxRecDepth 100000 in
theorem r_L_law_585 {d : Nat} {ls : List (Option Value)} {st : List Value} {h : j_H} {Q : Option Value → j_H → Prop} {v : Nat} : WP d mL_law 585 (some (.ref v) :: ls) (st) h Q = WP d mL_law 586 (some (.ref v) :: ls) (.ref v :: st) h Q := w_aload (show j_ins mL_law 585 = some (2, 586, 0, 0, 0, 0, 0) from rfl) rfl
set_option maxRecDepth 100000 in
theorem r_L_law_586 {d : Nat} {ls : List (Option Value)} {st : List Value} {h : j_H} {Q : Option Value → j_H → Prop} {l0 l1 l2 : Option Value} {v : Int32} : WP d mL_law 586 (l0 :: l1 :: l2 :: some (.int v) :: ls) (st) h Q = WP d mL_law 587 (l0 :: l1 :: l2 :: some (.int v) :: ls) (.int v :: st) h Q := w_iload (show j_ins mL_law 586 = some (0, 587, 3, 0, 0, 0, 0) from rfl) rfl
set_option maxRecDepth 100000 in
theorem r_L_law_587 {d : Nat} {ls : List (Option Value)} {st : List Value} {h : j_H} {Q : Option Value → j_H → Prop} : WP d mL_law 587 (ls) (st) h Q = WP d mL_law 588 (ls) (.int (nI 2) :: st) h Q := w_pushi (show j_ins mL_law 587 = some (6, 588, 0, 0, 2, 0, 0) from rfl) (by decide +kernel)
set_option maxRecDepth 100000 in
theorem r_L_law_588 {d : Nat} {ls : List (Option Value)} {st : List Value} {h : j_H} {Q : Option Value → j_H → Prop} {a b : Int32} : WP d mL_law 588 (ls) (.int b :: .int a :: st) h Q = WP d mL_law 589 (ls) (.int (a + b) :: st) h Q := w_iadd (show j_ins mL_law 588 = some (9, 589, 0, 0, 0, 0, 0) from rfl)
set_option maxRecDepth 100000 in
theorem r_L_law_589 {d : Nat} {ls : List (Option Value)} {st : List Value} {h : j_H} {Q : Option Value → j_H → Prop} {a : Nat} {i : Int32} : WP d mL_law 589 (ls) (.int i :: .ref a :: st) h Q = gI (hg h a) i (fun v => WP d mL_law 590 (ls) (.int v :: st) h Q) := w_iald (show j_ins mL_law 589 = some (49, 590, 0, 0, 0, 0, 0) from rfl)
set_option maxRecDepth 100000 in
theorem r_L_law_590 {d : Nat} {ls : List (Option Value)} {st : List Value} {h : j_H} {Q : Option Value → j_H → Prop} {v : Nat} : WP d mL_law 590 (some (.ref v) :: ls) (st) h Q = WP d mL_law 591 (some (.ref v) :: ls) (.ref v :: st) h Q := w_aload (show j_ins mL_law 590 = some (2, 591, 0, 0, 0, 0, 0) from rfl) rfl
set_option maxRecDepth 100000 in
theorem r_L_law_591 {d : Nat} {ls : List (Option Value)} {st : List Value} {h : j_H} {Q : Option Value → j_H → Prop} {l0 l1 l2 : Option Value} {v : Int32} : WP d mL_law 591 (l0 :: l1 :: l2 :: some (.int v) :: ls) (st) h Q = WP d mL_law 592 (l0 :: l1 :: l2 :: some (.int v) :: ls) (.int v :: st) h Q := w_iload (show j_ins mL_law 591 = some (0, 592, 3, 0, 0, 0, 0) from rfl) rfl
set_option maxRecDepth 100000 in
theorem r_L_law_592 {d : Nat} {ls : List (Option Value)} {st : List Value} {h : j_H} {Q : Option Value → j_H → Prop} : WP d mL_law 592 (ls) (st) h Q = WP d mL_law 593 (ls) (.int (nI 3) :: st) h Q := w_pushi (show j_ins mL_law 592 = some (6, 593, 0, 0, 3, 0, 0) from rfl) (by decide +kernel)
set_option maxRecDepth 100000 in
theorem r_L_law_593 {d : Nat} {ls : List (Option Value)} {st : List Value} {h : j_H} {Q : Option Value → j_H → Prop} {a b : Int32} : WP d mL_law 593 (ls) (.int b :: .int a :: st) h Q = WP d mL_law 594 (ls) (.int (a + b) :: st) h Q := w_iadd (show j_ins mL_law 593 = some (9, 594, 0, 0, 0, 0, 0) from rfl)
set_option maxRecDepth 100000 in
theorem r_L_law_594 {d : Nat} {ls : List (Option Value)} {st : List Value} {h : j_H} {Q : Option Value → j_H → Prop} {a : Nat} {i : Int32} : WP d mL_law 594 (ls) (.int i :: .ref a :: st) h Q = gI (hg h a) i (fun v => WP d mL_law 595 (ls) (.int v :: st) h Q) := w_iald (show j_ins mL_law 594 = some (49, 595, 0, 0, 0, 0, 0) from rfl)
set_option maxRecDepth 100000 in
theorem r_L_law_595 {d : Nat} {ls : List (Option Value)} {h : j_H} {Q : Option Value → j_H → Prop} {a0 : Nat} {a1 : Int32} {a2 : Int32} {a3 : Int32} : WP (d + 1) mL_law 595 ls [.int a3, .int a2, .int a1, .ref a0] h Q = gO (hg h a0) 10 (WP d mX10_factor 0 [some (.ref a0), some (.int a1), some (.int a2), some (.int a3), none, none] [] h (fun v h1 => WP (d + 1) mL_law 598 ls (pu v []) h1 Q)) := w_vir (k := 62) (ci := 10) (Or.inl rfl) (show j_ins mL_law 595 = some (62, 598, mX10_factor, 3, 10, 85, 658) from rfl) rfl rfl rfl (Nat.le_of_ble_eq_true rfl) (Nat.le_of_ble_eq_true rfl) rfl
set_option maxRecDepth 100000 in
theorem r_L_law_598 {d : Nat} {ls : List (Option Value)} {st : List Value} {h : j_H} {Q : Option Value → j_H → Prop} {l0 l1 : Option Value} {v : Nat} : WP d mL_law 598 (l0 :: l1 :: some (.ref v) :: ls) (st) h Q = WP d mL_law 599 (l0 :: l1 :: some (.ref v) :: ls) (.ref v :: st) h Q := w_aload (show j_ins mL_law 598 = some (2, 599, 2, 0, 0, 0, 0) from rfl) rfl
set_option maxRecDepth 100000 in
theorem r_L_law_599 {d : Nat} {ls : List (Option Value)} {st : List Value} {h : j_H} {Q : Option Value → j_H → Prop} {v : Nat} : WP d mL_law 599 (some (.ref v) :: ls) (st) h Q = WP d mL_law 600 (some (.ref v) :: ls) (.ref v :: st) h Q := w_aload (show j_ins mL_law 599 = some (2, 600, 0, 0, 0, 0, 0) from rfl) rfl
set_option maxRecDepth 100000 in
theorem r_L_law_600 {d : Nat} {ls : List (Option Value)} {st : List Value} {h : j_H} {Q : Option Value → j_H → Prop} {l0 l1 l2 : Option Value} {v : Int32} : WP d mL_law 600 (l0 :: l1 :: l2 :: some (.int v) :: ls) (st) h Q = WP d mL_law 601 (l0 :: l1 :: l2 :: some (.int v) :: ls) (.int v :: st) h Q := w_iload (show j_ins mL_law 600 = some (0, 601, 3, 0, 0, 0, 0) from rfl) rfl
set_option maxRecDepth 100000 in
theorem r_L_law_601 {d : Nat} {ls : List (Option Value)} {st : List Value} {h : j_H} {Q : Option Value → j_H → Prop} : WP d mL_law 601 (ls) (st) h Q = WP d mL_law 602 (ls) (.int (nI 1) :: st) h Q := w_pushi (show j_ins mL_law 601 = some (6, 602, 0, 0, 1, 0, 0) from rfl) (by decide +kernel)
set_option maxRecDepth 100000 in
theorem r_L_law_602 {d : Nat} {ls : List (Option Value)} {st : List Value} {h : j_H} {Q : Option Value → j_H → Prop} {a b : Int32} : WP d mL_law 602 (ls) (.int b :: .int a :: st) h Q = WP d mL_law 603 (ls) (.int (a + b) :: st) h Q := w_iadd (show j_ins mL_law 602 = some (9, 603, 0, 0, 0, 0, 0) from rfl)
set_option maxRecDepth 100000 in
theorem r_L_law_603 {d : Nat} {ls : List (Option Value)} {st : List Value} {h : j_H} {Q : Option Value → j_H → Prop} {a : Nat} {i : Int32} : WP d mL_law 603 (ls) (.int i :: .ref a :: st) h Q = gI (hg h a) i (fun v => WP d mL_law 604 (ls) (.int v :: st) h Q) := w_iald (show j_ins mL_law 603 = some (49, 604, 0, 0, 0, 0, 0) from rfl)
set_option maxRecDepth 100000 in
theorem r_L_law_604 {d : Nat} {ls : List (Option Value)} {st : List Value} {h : j_H} {Q : Option Value → j_H → Prop} {v : Nat} : WP d mL_law 604 (some (.ref v) :: ls) (st) h Q = WP d mL_law 605 (some (.ref v) :: ls) (.ref v :: st) h Q := w_aload (show j_ins mL_law 604 = some (2, 605, 0, 0, 0, 0, 0) from rfl) rfl
set_option maxRecDepth 100000 in
theorem r_L_law_605 {d : Nat} {ls : List (Option Value)} {st : List Value} {h : j_H} {Q : Option Value → j_H → Prop} {l0 l1 l2 : Option Value} {v : Int32} : WP d mL_law 605 (l0 :: l1 :: l2 :: some (.int v) :: ls) (st) h Q = WP d mL_law 606 (l0 :: l1 :: l2 :: some (.int v) :: ls) (.int v :: st) h Q := w_iload (show j_ins mL_law 605 = some (0, 606, 3, 0, 0, 0, 0) from rfl) rfl
set_option maxRecDepth 100000 in
theorem r_L_law_606 {d : Nat} {ls : List (Option Value)} {st : List Value} {h : j_H} {Q : Option Value → j_H → Prop} : WP d mL_law 606 (ls) (st) h Q = WP d mL_law 607 (ls) (.int (nI 2) :: st) h Q := w_pushi (show j_ins mL_law 606 = some (6, 607, 0, 0, 2, 0, 0) from rfl) (by decide +kernel)
set_option maxRecDepth 100000 in
theorem r_L_law_607 {d : Nat} {ls : List (Option Value)} {st : List Value} {h : j_H} {Q : Option Value → j_H → Prop} {a b : Int32} : WP d mL_law 607 (ls) (.int b :: .int a :: st) h Q = WP d mL_law 608 (ls) (.int (a + b) :: st) h Q := w_iadd (show j_ins mL_law 607 = some (9, 608, 0, 0, 0, 0, 0) from rfl)
set_option maxRecDepth 100000 in
theorem r_L_law_608 {d : Nat} {ls : List (Option Value)} {st : List Value} {h : j_H} {Q : Option Value → j_H → Prop} {a : Nat} {i : Int32} : WP d mL_law 608 (ls) (.int i :: .ref a :: st) h Q = gI (hg h a) i (fun v => WP d mL_law 609 (ls) (.int v :: st) h Q) := w_iald (show j_ins mL_law 608 = some (49, 609, 0, 0, 0, 0, 0) from rfl)
set_option maxRecDepth 100000 in
theorem r_L_law_609 {d : Nat} {ls : List (Option Value)} {st : List Value} {h : j_H} {Q : Option Value → j_H → Prop} {v : Nat} : WP d mL_law 609 (some (.ref v) :: ls) (st) h Q = WP d mL_law 610 (some (.ref v) :: ls) (.ref v :: st) h Q := w_aload (show j_ins mL_law 609 = some (2, 610, 0, 0, 0, 0, 0) from rfl) rfl
set_option maxRecDepth 100000 in
theorem r_L_law_610 {d : Nat} {ls : List (Option Value)} {st : List Value} {h : j_H} {Q : Option Value → j_H → Prop} {l0 l1 l2 : Option Value} {v : Int32} : WP d mL_law 610 (l0 :: l1 :: l2 :: some (.int v) :: ls) (st) h Q = WP d mL_law 611 (l0 :: l1 :: l2 :: some (.int v) :: ls) (.int v :: st) h Q := w_iload (show j_ins mL_law 610 = some (0, 611, 3, 0, 0, 0, 0) from rfl) rfl
set_option maxRecDepth 100000 in
theorem r_L_law_611 {d : Nat} {ls : List (Option Value)} {st : List Value} {h : j_H} {Q : Option Value → j_H → Prop} : WP d mL_law 611 (ls) (st) h Q = WP d mL_law 612 (ls) (.int (nI 3) :: st) h Q := w_pushi (show j_ins mL_law 611 = some (6, 612, 0, 0, 3, 0, 0) from rfl) (by decide +kernel)
set_option maxRecDepth 100000 in
theorem r_L_law_612 {d : Nat} {ls : List (Option Value)} {st : List Value} {h : j_H} {Q : Option Value → j_H → Prop} {a b : Int32} : WP d mL_law 612 (ls) (.int b :: .int a :: st) h Q = WP d mL_law 613 (ls) (.int (a + b) :: st) h Q := w_iadd (show j_ins mL_law 612 = some (9, 613, 0, 0, 0, 0, 0) from rfl)
set_option maxRecDepth 100000 in
theorem r_L_law_613 {d : Nat} {ls : List (Option Value)} {st : List Value} {h : j_H} {Q : Option Value → j_H → Prop} {a : Nat} {i : Int32} : WP d mL_law 613 (ls) (.int i :: .ref a :: st) h Q = gI (hg h a) i (fun v => WP d mL_law 614 (ls) (.int v :: st) h Q) := w_iald (show j_ins mL_law 613 = some (49, 614, 0, 0, 0, 0, 0) from rfl)
set_option maxRecDepth 100000 in
theorem r_L_law_614 {d : Nat} {ls : List (Option Value)} {h : j_H} {Q : Option Value → j_H → Prop} {u0 : Value} {a0 : Nat} {a1 : Int32} {a2 : Int32} {a3 : Int32} : WP (d + 1) mL_law 614 ls [.int a3, .int a2, .int a1, .ref a0, u0] h Q = gO (hg h a0) 11 (WP d mX11_factor 0 [some (.ref a0), some (.int a1), some (.int a2), some (.int a3), none, none] [] h (fun v h1 => WP (d + 1) mL_law 617 ls (pu v [u0]) h1 Q)) := w_vir (k := 62) (ci := 11) (Or.inl rfl) (show j_ins mL_law 614 = some (62, 617, mX11_factor, 3, 11, 88, 1040) from rfl) rfl rfl rfl (Nat.le_of_ble_eq_true rfl) (Nat.le_of_ble_eq_true rfl) rfl
set_option maxRecDepth 100000 in
theorem r_L_law_617 {d : Nat} {ls : List (Option Value)} {st : List Value} {h : j_H} {Q : Option Value → j_H → Prop} {a b : Int32} : WP d mL_law 617 (ls) (.int b :: .int a :: st) h Q = (if a = b then WP d mL_law 794 (ls) (st) h Q else WP d mL_law 620 (ls) (st) h Q) := w_iceq (show j_ins mL_law 617 = some (36, 620, 794, 0, 177, 0, 0) from rfl)
set_option maxRecDepth 100000 in
theorem r_L_law_620 {d : Nat} {ls : List (Option Value)} {st : List Value} {h : j_H} {Q : Option Value → j_H → Prop} : WP d mL_law 620 (ls) (st) h Q = WP d mL_law 621 (ls) (.int (nI 0) :: st) h Q := w_pushi (show j_ins mL_law 620 = some (6, 621, 0, 0, 0, 0, 0) from rfl) (by decide +kernel)
set_option maxRecDepth 100000 in
theorem r_L_law_621 {d : Nat} {ls : List (Option Value)} {h : j_H} {Q : Option Value → j_H → Prop} {v : Bool} : WP d mL_law 621 ls [.int (bI v)] h Q = Q (some (.int (bI v))) h := w_zret (show j_ins mL_law 621 = some (65, 622, 0, 0, 1, 0, 0) from rfl) (bI_01 v)
set_option maxRecDepth 100000 in
theorem r_L_law_621_0 {d : Nat} {ls : List (Option Value)} {h : j_H} {Q : Option Value → j_H → Prop} : WP d mL_law 621 ls [.int (nI 0)] h Q = Q (some (.int (bI false))) h := w_zret (show j_ins mL_law 621 = some (65, 622, 0, 0, 1, 0, 0) from rfl) (Or.inl rfl)
set_option maxRecDepth 100000 in
theorem r_L_law_621_1 {d : Nat} {ls : List (Option Value)} {h : j_H} {Q : Option Value → j_H → Prop} : WP d mL_law 621 ls [.int (nI 1)] h Q = Q (some (.int (bI true))) h := w_zret (show j_ins mL_law 621 = some (65, 622, 0, 0, 1, 0, 0) from rfl) (Or.inr rfl)
set_option maxRecDepth 100000 in
theorem r_L_law_622 {d : Nat} {ls : List (Option Value)} {st : List Value} {h : j_H} {Q : Option Value → j_H → Prop} {l0 : Option Value} {v : Nat} : WP d mL_law 622 (l0 :: some (.ref v) :: ls) (st) h Q = WP d mL_law 623 (l0 :: some (.ref v) :: ls) (.ref v :: st) h Q := w_aload (show j_ins mL_law 622 = some (2, 623, 1, 0, 0, 0, 0) from rfl) rfl
set_option maxRecDepth 100000 in
theorem r_L_law_623 {d : Nat} {ls : List (Option Value)} {h : j_H} {Q : Option Value → j_H → Prop} {a0 : Nat} : WP (d + 1) mL_law 623 ls [.ref a0] h Q = gO (hg h a0) 10 (WP d mX10_full 0 [some (.ref a0)] [] h (fun v h1 => WP (d + 1) mL_law 626 ls (pu v []) h1 Q)) := w_vir (k := 62) (ci := 10) (Or.inl rfl) (show j_ins mL_law 623 = some (62, 626, mX10_full, 0, 10, 89, 674) from rfl) rfl rfl rfl (Nat.le_of_ble_eq_true rfl) (Nat.le_of_ble_eq_true rfl) rfl
set_option maxRecDepth 100000 in
theorem r_L_law_626 {d : Nat} {ls : List (Option Value)} {st : List Value} {h : j_H} {Q : Option Value → j_H → Prop} {l0 l1 : Option Value} {v : Nat} : WP d mL_law 626 (l0 :: l1 :: some (.ref v) :: ls) (st) h Q = WP d mL_law 627 (l0 :: l1 :: some (.ref v) :: ls) (.ref v :: st) h Q := w_aload (show j_ins mL_law 626 = some (2, 627, 2, 0, 0, 0, 0) from rfl) rfl
set_option maxRecDepth 100000 in
theorem r_L_law_627 {d : Nat} {ls : List (Option Value)} {h : j_H} {Q : Option Value → j_H → Prop} {u0 : Value} {a0 : Nat} : WP (d + 1) mL_law 627 ls [.ref a0, u0] h Q = gO (hg h a0) 11 (WP d mX11_full 0 [some (.ref a0), none, none, none] [] h (fun v h1 => WP (d + 1) mL_law 630 ls (pu v [u0]) h1 Q)) := w_vir (k := 62) (ci := 11) (Or.inl rfl) (show j_ins mL_law 627 = some (62, 630, mX11_full, 0, 11, 92, 1044) from rfl) rfl rfl rfl (Nat.le_of_ble_eq_true rfl) (Nat.le_of_ble_eq_true rfl) rfl
set_option maxRecDepth 100000 in
theorem r_L_law_630 {d : Nat} {ls : List (Option Value)} {st : List Value} {h : j_H} {Q : Option Value → j_H → Prop} {a b : Int32} : WP d mL_law 630 (ls) (.int b :: .int a :: st) h Q = (if a = b then WP d mL_law 794 (ls) (st) h Q else WP d mL_law 633 (ls) (st) h Q) := w_iceq (show j_ins mL_law 630 = some (36, 633, 794, 0, 164, 0, 0) from rfl)
set_option maxRecDepth 100000 in
theorem r_L_law_633 {d : Nat} {ls : List (Option Value)} {st : List Value} {h : j_H} {Q : Option Value → j_H → Prop} : WP d mL_law 633 (ls) (st) h Q = WP d mL_law 634 (ls) (.int (nI 0) :: st) h Q := w_pushi (show j_ins mL_law 633 = some (6, 634, 0, 0, 0, 0, 0) from rfl) (by decide +kernel)
set_option maxRecDepth 100000 in
theorem r_L_law_634 {d : Nat} {ls : List (Option Value)} {h : j_H} {Q : Option Value → j_H → Prop} {v : Bool} : WP d mL_law 634 ls [.int (bI v)] h Q = Q (some (.int (bI v))) h := w_zret (show j_ins mL_law 634 = some (65, 635, 0, 0, 1, 0, 0) from rfl) (bI_01 v)
set_option maxRecDepth 100000 in
theorem r_L_law_634_0 {d : Nat} {ls : List (Option Value)} {h : j_H} {Q : Option Value → j_H → Prop} : WP d mL_law 634 ls [.int (nI 0)] h Q = Q (some (.int (bI false))) h := w_zret (show j_ins mL_law 634 = some (65, 635, 0, 0, 1, 0, 0) from rfl) (Or.inl rfl)
set_option maxRecDepth 100000 in
theorem r_L_law_634_1 {d : Nat} {ls : List (Option Value)} {h : j_H} {Q : Option Value → j_H → Prop} : WP d mL_law 634 ls [.int (nI 1)] h Q = Q (some (.int (bI true))) h := w_zret (show j_ins mL_law 634 = some (65, 635, 0, 0, 1, 0, 0) from rfl) (Or.inr rfl)
set_option maxRecDepth 100000 in
theorem r_L_law_635 {d : Nat} {ls : List (Option Value)} {st : List Value} {h : j_H} {Q : Option Value → j_H → Prop} {l0 : Option Value} {v : Nat} : WP d mL_law 635 (l0 :: some (.ref v) :: ls) (st) h Q = WP d mL_law 636 (l0 :: some (.ref v) :: ls) (.ref v :: st) h Q := w_aload (show j_ins mL_law 635 = some (2, 636, 1, 0, 0, 0, 0) from rfl) rfl
set_option maxRecDepth 100000 in
theorem r_L_law_636 {d : Nat} {ls : List (Option Value)} {h : j_H} {Q : Option Value → j_H → Prop} {a0 : Nat} : WP (d + 1) mL_law 636 ls [.ref a0] h Q = gO (hg h a0) 10 (WP d mX10_determinant 0 [some (.ref a0)] [] h (fun v h1 => WP (d + 1) mL_law 639 ls (pu v []) h1 Q)) := w_vir (k := 62) (ci := 10) (Or.inl rfl) (show j_ins mL_law 636 = some (62, 639, mX10_determinant, 0, 10, 93, 682) from rfl) rfl rfl rfl (Nat.le_of_ble_eq_true rfl) (Nat.le_of_ble_eq_true rfl) rfl
set_option maxRecDepth 100000 in
theorem r_L_law_639 {d : Nat} {ls : List (Option Value)} {st : List Value} {h : j_H} {Q : Option Value → j_H → Prop} {l0 l1 : Option Value} {v : Nat} : WP d mL_law 639 (l0 :: l1 :: some (.ref v) :: ls) (st) h Q = WP d mL_law 640 (l0 :: l1 :: some (.ref v) :: ls) (.ref v :: st) h Q := w_aload (show j_ins mL_law 639 = some (2, 640, 2, 0, 0, 0, 0) from rfl) rfl
set_option maxRecDepth 100000 in
theorem r_L_law_640 {d : Nat} {ls : List (Option Value)} {h : j_H} {Q : Option Value → j_H → Prop} {u0 : Value} {a0 : Nat} : WP (d + 1) mL_law 640 ls [.ref a0, u0] h Q = gO (hg h a0) 11 (WP d mX11_determinant 0 [some (.ref a0)] [] h (fun v h1 => WP (d + 1) mL_law 643 ls (pu v [u0]) h1 Q)) := w_vir (k := 62) (ci := 11) (Or.inl rfl) (show j_ins mL_law 640 = some (62, 643, mX11_determinant, 0, 11, 96, 1048) from rfl) rfl rfl rfl (Nat.le_of_ble_eq_true rfl) (Nat.le_of_ble_eq_true rfl) rfl
set_option maxRecDepth 100000 in
theorem r_L_law_643 {d : Nat} {ls : List (Option Value)} {st : List Value} {h : j_H} {Q : Option Value → j_H → Prop} {a b : Int32} : WP d mL_law 643 (ls) (.int b :: .int a :: st) h Q = (if a = b then WP d mL_law 794 (ls) (st) h Q else WP d mL_law 646 (ls) (st) h Q) := w_iceq (show j_ins mL_law 643 = some (36, 646, 794, 0, 151, 0, 0) from rfl)
set_option maxRecDepth 100000 in
theorem r_L_law_646 {d : Nat} {ls : List (Option Value)} {st : List Value} {h : j_H} {Q : Option Value → j_H → Prop} : WP d mL_law 646 (ls) (st) h Q = WP d mL_law 647 (ls) (.int (nI 0) :: st) h Q := w_pushi (show j_ins mL_law 646 = some (6, 647, 0, 0, 0, 0, 0) from rfl) (by decide +kernel)
set_option maxRecDepth 100000 in
theorem r_L_law_647 {d : Nat} {ls : List (Option Value)} {h : j_H} {Q : Option Value → j_H → Prop} {v : Bool} : WP d mL_law 647 ls [.int (bI v)] h Q = Q (some (.int (bI v))) h := w_zret (show j_ins mL_law 647 = some (65, 648, 0, 0, 1, 0, 0) from rfl) (bI_01 v)
set_option maxRecDepth 100000 in
theorem r_L_law_647_0 {d : Nat} {ls : List (Option Value)} {h : j_H} {Q : Option Value → j_H → Prop} : WP d mL_law 647 ls [.int (nI 0)] h Q = Q (some (.int (bI false))) h := w_zret (show j_ins mL_law 647 = some (65, 648, 0, 0, 1, 0, 0) from rfl) (Or.inl rfl)
set_option maxRecDepth 100000 in
theorem r_L_law_647_1 {d : Nat} {ls : List (Option Value)} {h : j_H} {Q : Option Value → j_H → Prop} : WP d mL_law 647 ls [.int (nI 1)] h Q = Q (some (.int (bI true))) h := w_zret (show j_ins mL_law 647 = some (65, 648, 0, 0, 1, 0, 0) from rfl) (Or.inr rfl)
set_option maxRecDepth 100000 in
theorem r_L_law_648 {d : Nat} {ls : List (Option Value)} {st : List Value} {h : j_H} {Q : Option Value → j_H → Prop} {l0 : Option Value} {v : Nat} : WP d mL_law 648 (l0 :: some (.ref v) :: ls) (st) h Q = WP d mL_law 649 (l0 :: some (.ref v) :: ls) (.ref v :: st) h Q := w_aload (show j_ins mL_law 648 = some (2, 649, 1, 0, 0, 0, 0) from rfl) rfl
set_option maxRecDepth 100000 in
theorem r_L_law_649 {d : Nat} {ls : List (Option Value)} {h : j_H} {Q : Option Value → j_H → Prop} {a0 : Nat} : WP (d + 1) mL_law 649 ls [.ref a0] h Q = gO (hg h a0) 10 (WP d mX10_rank 0 [some (.ref a0)] [] h (fun v h1 => WP (d + 1) mL_law 652 ls (pu v []) h1 Q)) := w_vir (k := 62) (ci := 10) (Or.inl rfl) (show j_ins mL_law 649 = some (62, 652, mX10_rank, 0, 10, 97, 702) from rfl) rfl rfl rfl (Nat.le_of_ble_eq_true rfl) (Nat.le_of_ble_eq_true rfl) rfl
set_option maxRecDepth 100000 in
theorem r_L_law_652 {d : Nat} {ls : List (Option Value)} {st : List Value} {h : j_H} {Q : Option Value → j_H → Prop} {l0 l1 : Option Value} {v : Nat} : WP d mL_law 652 (l0 :: l1 :: some (.ref v) :: ls) (st) h Q = WP d mL_law 653 (l0 :: l1 :: some (.ref v) :: ls) (.ref v :: st) h Q := w_aload (show j_ins mL_law 652 = some (2, 653, 2, 0, 0, 0, 0) from rfl) rfl
set_option maxRecDepth 100000 in
theorem r_L_law_653 {d : Nat} {ls : List (Option Value)} {h : j_H} {Q : Option Value → j_H → Prop} {u0 : Value} {a0 : Nat} : WP (d + 1) mL_law 653 ls [.ref a0, u0] h Q = gO (hg h a0) 11 (WP d mX11_rank 0 [some (.ref a0), none, none] [] h (fun v h1 => WP (d + 1) mL_law 656 ls (pu v [u0]) h1 Q)) := w_vir (k := 62) (ci := 11) (Or.inl rfl) (show j_ins mL_law 653 = some (62, 656, mX11_rank, 0, 11, 100, 1060) from rfl) rfl rfl rfl (Nat.le_of_ble_eq_true rfl) (Nat.le_of_ble_eq_true rfl) rfl
set_option maxRecDepth 100000 in
theorem r_L_law_656 {d : Nat} {ls : List (Option Value)} {st : List Value} {h : j_H} {Q : Option Value → j_H → Prop} {a b : Int32} : WP d mL_law 656 (ls) (.int b :: .int a :: st) h Q = (if a = b then WP d mL_law 794 (ls) (st) h Q else WP d mL_law 659 (ls) (st) h Q) := w_iceq (show j_ins mL_law 656 = some (36, 659, 794, 0, 138, 0, 0) from rfl)
set_option maxRecDepth 100000 in
theorem r_L_law_659 {d : Nat} {ls : List (Option Value)} {st : List Value} {h : j_H} {Q : Option Value → j_H → Prop} : WP d mL_law 659 (ls) (st) h Q = WP d mL_law 660 (ls) (.int (nI 0) :: st) h Q := w_pushi (show j_ins mL_law 659 = some (6, 660, 0, 0, 0, 0, 0) from rfl) (by decide +kernel)
set_option maxRecDepth 100000 in
theorem r_L_law_660 {d : Nat} {ls : List (Option Value)} {h : j_H} {Q : Option Value → j_H → Prop} {v : Bool} : WP d mL_law 660 ls [.int (bI v)] h Q = Q (some (.int (bI v))) h := w_zret (show j_ins mL_law 660 = some (65, 661, 0, 0, 1, 0, 0) from rfl) (bI_01 v)
set_option maxRecDepth 100000 in
theorem r_L_law_660_0 {d : Nat} {ls : List (Option Value)} {h : j_H} {Q : Option Value → j_H → Prop} : WP d mL_law 660 ls [.int (nI 0)] h Q = Q (some (.int (bI false))) h := w_zret (show j_ins mL_law 660 = some (65, 661, 0, 0, 1, 0, 0) from rfl) (Or.inl rfl)
set_option maxRecDepth 100000 in
theorem r_L_law_660_1 {d : Nat} {ls : List (Option Value)} {h : j_H} {Q : Option Value → j_H → Prop} : WP d mL_law 660 ls [.int (nI 1)] h Q = Q (some (.int (bI true))) h := w_zret (show j_ins mL_law 660 = some (65, 661, 0, 0, 1, 0, 0) from rfl) (Or.inr rfl)
set_option maxRecDepth 100000 in
theorem r_L_law_661 {d : Nat} {ls : List (Option Value)} {st : List Value} {h : j_H} {Q : Option Value → j_H → Prop} {l0 : Option Value} {v : Nat} : WP d mL_law 661 (l0 :: some (.ref v) :: ls) (st) h Q = WP d mL_law 662 (l0 :: some (.ref v) :: ls) (.ref v :: st) h Q := w_aload (show j_ins mL_law 661 = some (2, 662, 1, 0, 0, 0, 0) from rfl) rfl
set_option maxRecDepth 100000 in
theorem r_L_law_662 {d : Nat} {ls : List (Option Value)} {st : List Value} {h : j_H} {Q : Option Value → j_H → Prop} {v : Nat} : WP d mL_law 662 (some (.ref v) :: ls) (st) h Q = WP d mL_law 663 (some (.ref v) :: ls) (.ref v :: st) h Q := w_aload (show j_ins mL_law 662 = some (2, 663, 0, 0, 0, 0, 0) from rfl) rfl
set_option maxRecDepth 100000 in
theorem r_L_law_663 {d : Nat} {ls : List (Option Value)} {st : List Value} {h : j_H} {Q : Option Value → j_H → Prop} {l0 l1 l2 : Option Value} {v : Int32} : WP d mL_law 663 (l0 :: l1 :: l2 :: some (.int v) :: ls) (st) h Q = WP d mL_law 664 (l0 :: l1 :: l2 :: some (.int v) :: ls) (.int v :: st) h Q := w_iload (show j_ins mL_law 663 = some (0, 664, 3, 0, 0, 0, 0) from rfl) rfl
set_option maxRecDepth 100000 in
theorem r_L_law_664 {d : Nat} {ls : List (Option Value)} {st : List Value} {h : j_H} {Q : Option Value → j_H → Prop} : WP d mL_law 664 (ls) (st) h Q = WP d mL_law 665 (ls) (.int (nI 1) :: st) h Q := w_pushi (show j_ins mL_law 664 = some (6, 665, 0, 0, 1, 0, 0) from rfl) (by decide +kernel)
set_option maxRecDepth 100000 in
theorem r_L_law_665 {d : Nat} {ls : List (Option Value)} {st : List Value} {h : j_H} {Q : Option Value → j_H → Prop} {a b : Int32} : WP d mL_law 665 (ls) (.int b :: .int a :: st) h Q = WP d mL_law 666 (ls) (.int (a + b) :: st) h Q := w_iadd (show j_ins mL_law 665 = some (9, 666, 0, 0, 0, 0, 0) from rfl)
set_option maxRecDepth 100000 in
theorem r_L_law_666 {d : Nat} {ls : List (Option Value)} {st : List Value} {h : j_H} {Q : Option Value → j_H → Prop} {a : Nat} {i : Int32} : WP d mL_law 666 (ls) (.int i :: .ref a :: st) h Q = gI (hg h a) i (fun v => WP d mL_law 667 (ls) (.int v :: st) h Q) := w_iald (show j_ins mL_law 666 = some (49, 667, 0, 0, 0, 0, 0) from rfl)
set_option maxRecDepth 100000 in
theorem r_L_law_667 {d : Nat} {ls : List (Option Value)} {h : j_H} {Q : Option Value → j_H → Prop} {a0 : Nat} {a1 : Int32} : WP (d + 1) mL_law 667 ls [.int a1, .ref a0] h Q = gO (hg h a0) 10 (WP d mX10_solution 0 [some (.ref a0), some (.int a1), none] [] h (fun v h1 => WP (d + 1) mL_law 670 ls (pu v []) h1 Q)) := w_vir (k := 62) (ci := 10) (Or.inl rfl) (show j_ins mL_law 667 = some (62, 670, mX10_solution, 1, 10, 101, 706) from rfl) rfl rfl rfl (Nat.le_of_ble_eq_true rfl) (Nat.le_of_ble_eq_true rfl) rfl
set_option maxRecDepth 100000 in
theorem r_L_law_670 {d : Nat} {ls : List (Option Value)} {st : List Value} {h : j_H} {Q : Option Value → j_H → Prop} {l0 l1 : Option Value} {v : Nat} : WP d mL_law 670 (l0 :: l1 :: some (.ref v) :: ls) (st) h Q = WP d mL_law 671 (l0 :: l1 :: some (.ref v) :: ls) (.ref v :: st) h Q := w_aload (show j_ins mL_law 670 = some (2, 671, 2, 0, 0, 0, 0) from rfl) rfl
set_option maxRecDepth 100000 in
theorem r_L_law_671 {d : Nat} {ls : List (Option Value)} {st : List Value} {h : j_H} {Q : Option Value → j_H → Prop} {v : Nat} : WP d mL_law 671 (some (.ref v) :: ls) (st) h Q = WP d mL_law 672 (some (.ref v) :: ls) (.ref v :: st) h Q := w_aload (show j_ins mL_law 671 = some (2, 672, 0, 0, 0, 0, 0) from rfl) rfl
set_option maxRecDepth 100000 in
theorem r_L_law_672 {d : Nat} {ls : List (Option Value)} {st : List Value} {h : j_H} {Q : Option Value → j_H → Prop} {l0 l1 l2 : Option Value} {v : Int32} : WP d mL_law 672 (l0 :: l1 :: l2 :: some (.int v) :: ls) (st) h Q = WP d mL_law 673 (l0 :: l1 :: l2 :: some (.int v) :: ls) (.int v :: st) h Q := w_iload (show j_ins mL_law 672 = some (0, 673, 3, 0, 0, 0, 0) from rfl) rfl
set_option maxRecDepth 100000 in
theorem r_L_law_673 {d : Nat} {ls : List (Option Value)} {st : List Value} {h : j_H} {Q : Option Value → j_H → Prop} : WP d mL_law 673 (ls) (st) h Q = WP d mL_law 674 (ls) (.int (nI 1) :: st) h Q := w_pushi (show j_ins mL_law 673 = some (6, 674, 0, 0, 1, 0, 0) from rfl) (by decide +kernel)
set_option maxRecDepth 100000 in
theorem r_L_law_674 {d : Nat} {ls : List (Option Value)} {st : List Value} {h : j_H} {Q : Option Value → j_H → Prop} {a b : Int32} : WP d mL_law 674 (ls) (.int b :: .int a :: st) h Q = WP d mL_law 675 (ls) (.int (a + b) :: st) h Q := w_iadd (show j_ins mL_law 674 = some (9, 675, 0, 0, 0, 0, 0) from rfl)
set_option maxRecDepth 100000 in
theorem r_L_law_675 {d : Nat} {ls : List (Option Value)} {st : List Value} {h : j_H} {Q : Option Value → j_H → Prop} {a : Nat} {i : Int32} : WP d mL_law 675 (ls) (.int i :: .ref a :: st) h Q = gI (hg h a) i (fun v => WP d mL_law 676 (ls) (.int v :: st) h Q) := w_iald (show j_ins mL_law 675 = some (49, 676, 0, 0, 0, 0, 0) from rfl)
set_option maxRecDepth 100000 in
theorem r_L_law_676 {d : Nat} {ls : List (Option Value)} {h : j_H} {Q : Option Value → j_H → Prop} {u0 : Value} {a0 : Nat} {a1 : Int32} : WP (d + 1) mL_law 676 ls [.int a1, .ref a0, u0] h Q = gO (hg h a0) 11 (WP d mX11_solution 0 [some (.ref a0), some (.int a1)] [] h (fun v h1 => WP (d + 1) mL_law 679 ls (pu v [u0]) h1 Q)) := w_vir (k := 62) (ci := 11) (Or.inl rfl) (show j_ins mL_law 676 = some (62, 679, mX11_solution, 1, 11, 104, 1064) from rfl) rfl rfl rfl (Nat.le_of_ble_eq_true rfl) (Nat.le_of_ble_eq_true rfl) rfl
set_option maxRecDepth 100000 in
theorem r_L_law_679 {d : Nat} {ls : List (Option Value)} {st : List Value} {h : j_H} {Q : Option Value → j_H → Prop} {a b : Int32} : WP d mL_law 679 (ls) (.int b :: .int a :: st) h Q = (if a = b then WP d mL_law 794 (ls) (st) h Q else WP d mL_law 682 (ls) (st) h Q) := w_iceq (show j_ins mL_law 679 = some (36, 682, 794, 0, 115, 0, 0) from rfl)
set_option maxRecDepth 100000 in
theorem r_L_law_682 {d : Nat} {ls : List (Option Value)} {st : List Value} {h : j_H} {Q : Option Value → j_H → Prop} : WP d mL_law 682 (ls) (st) h Q = WP d mL_law 683 (ls) (.int (nI 0) :: st) h Q := w_pushi (show j_ins mL_law 682 = some (6, 683, 0, 0, 0, 0, 0) from rfl) (by decide +kernel)
set_option maxRecDepth 100000 in
theorem r_L_law_683 {d : Nat} {ls : List (Option Value)} {h : j_H} {Q : Option Value → j_H → Prop} {v : Bool} : WP d mL_law 683 ls [.int (bI v)] h Q = Q (some (.int (bI v))) h := w_zret (show j_ins mL_law 683 = some (65, 684, 0, 0, 1, 0, 0) from rfl) (bI_01 v)
set_option maxRecDepth 100000 in
theorem r_L_law_683_0 {d : Nat} {ls : List (Option Value)} {h : j_H} {Q : Option Value → j_H → Prop} : WP d mL_law 683 ls [.int (nI 0)] h Q = Q (some (.int (bI false))) h := w_zret (show j_ins mL_law 683 = some (65, 684, 0, 0, 1, 0, 0) from rfl) (Or.inl rfl)
set_option maxRecDepth 100000 in
theorem r_L_law_683_1 {d : Nat} {ls : List (Option Value)} {h : j_H} {Q : Option Value → j_H → Prop} : WP d mL_law 683 ls [.int (nI 1)] h Q = Q (some (.int (bI true))) h := w_zret (show j_ins mL_law 683 = some (65, 684, 0, 0, 1, 0, 0) from rfl) (Or.inr rfl)
set_option maxRecDepth 100000 in
theorem r_L_law_684 {d : Nat} {ls : List (Option Value)} {st : List Value} {h : j_H} {Q : Option Value → j_H → Prop} {l0 : Option Value} {v : Nat} : WP d mL_law 684 (l0 :: some (.ref v) :: ls) (st) h Q = WP d mL_law 685 (l0 :: some (.ref v) :: ls) (.ref v :: st) h Q := w_aload (show j_ins mL_law 684 = some (2, 685, 1, 0, 0, 0, 0) from rfl) rfl
set_option maxRecDepth 100000 in
theorem r_L_law_685 {d : Nat} {ls : List (Option Value)} {st : List Value} {h : j_H} {Q : Option Value → j_H → Prop} {v : Nat} : WP d mL_law 685 (some (.ref v) :: ls) (st) h Q = WP d mL_law 686 (some (.ref v) :: ls) (.ref v :: st) h Q := w_aload (show j_ins mL_law 685 = some (2, 686, 0, 0, 0, 0, 0) from rfl) rfl
set_option maxRecDepth 100000 in
theorem r_L_law_686 {d : Nat} {ls : List (Option Value)} {st : List Value} {h : j_H} {Q : Option Value → j_H → Prop} {l0 l1 l2 : Option Value} {v : Int32} : WP d mL_law 686 (l0 :: l1 :: l2 :: some (.int v) :: ls) (st) h Q = WP d mL_law 687 (l0 :: l1 :: l2 :: some (.int v) :: ls) (.int v :: st) h Q := w_iload (show j_ins mL_law 686 = some (0, 687, 3, 0, 0, 0, 0) from rfl) rfl
set_option maxRecDepth 100000 in
theorem r_L_law_687 {d : Nat} {ls : List (Option Value)} {st : List Value} {h : j_H} {Q : Option Value → j_H → Prop} : WP d mL_law 687 (ls) (st) h Q = WP d mL_law 688 (ls) (.int (nI 1) :: st) h Q := w_pushi (show j_ins mL_law 687 = some (6, 688, 0, 0, 1, 0, 0) from rfl) (by decide +kernel)
set_option maxRecDepth 100000 in
theorem r_L_law_688 {d : Nat} {ls : List (Option Value)} {st : List Value} {h : j_H} {Q : Option Value → j_H → Prop} {a b : Int32} : WP d mL_law 688 (ls) (.int b :: .int a :: st) h Q = WP d mL_law 689 (ls) (.int (a + b) :: st) h Q := w_iadd (show j_ins mL_law 688 = some (9, 689, 0, 0, 0, 0, 0) from rfl)
set_option maxRecDepth 100000 in
theorem r_L_law_689 {d : Nat} {ls : List (Option Value)} {st : List Value} {h : j_H} {Q : Option Value → j_H → Prop} {a : Nat} {i : Int32} : WP d mL_law 689 (ls) (.int i :: .ref a :: st) h Q = gI (hg h a) i (fun v => WP d mL_law 690 (ls) (.int v :: st) h Q) := w_iald (show j_ins mL_law 689 = some (49, 690, 0, 0, 0, 0, 0) from rfl)
set_option maxRecDepth 100000 in
theorem r_L_law_690 {d : Nat} {ls : List (Option Value)} {st : List Value} {h : j_H} {Q : Option Value → j_H → Prop} {v : Nat} : WP d mL_law 690 (some (.ref v) :: ls) (st) h Q = WP d mL_law 691 (some (.ref v) :: ls) (.ref v :: st) h Q := w_aload (show j_ins mL_law 690 = some (2, 691, 0, 0, 0, 0, 0) from rfl) rfl
set_option maxRecDepth 100000 in
theorem r_L_law_691 {d : Nat} {ls : List (Option Value)} {st : List Value} {h : j_H} {Q : Option Value → j_H → Prop} {l0 l1 l2 : Option Value} {v : Int32} : WP d mL_law 691 (l0 :: l1 :: l2 :: some (.int v) :: ls) (st) h Q = WP d mL_law 692 (l0 :: l1 :: l2 :: some (.int v) :: ls) (.int v :: st) h Q := w_iload (show j_ins mL_law 691 = some (0, 692, 3, 0, 0, 0, 0) from rfl) rfl
set_option maxRecDepth 100000 in
theorem r_L_law_692 {d : Nat} {ls : List (Option Value)} {st : List Value} {h : j_H} {Q : Option Value → j_H → Prop} : WP d mL_law 692 (ls) (st) h Q = WP d mL_law 693 (ls) (.int (nI 2) :: st) h Q := w_pushi (show j_ins mL_law 692 = some (6, 693, 0, 0, 2, 0, 0) from rfl) (by decide +kernel)
set_option maxRecDepth 100000 in
theorem r_L_law_693 {d : Nat} {ls : List (Option Value)} {st : List Value} {h : j_H} {Q : Option Value → j_H → Prop} {a b : Int32} : WP d mL_law 693 (ls) (.int b :: .int a :: st) h Q = WP d mL_law 694 (ls) (.int (a + b) :: st) h Q := w_iadd (show j_ins mL_law 693 = some (9, 694, 0, 0, 0, 0, 0) from rfl)
set_option maxRecDepth 100000 in
theorem r_L_law_694 {d : Nat} {ls : List (Option Value)} {st : List Value} {h : j_H} {Q : Option Value → j_H → Prop} {a : Nat} {i : Int32} : WP d mL_law 694 (ls) (.int i :: .ref a :: st) h Q = gI (hg h a) i (fun v => WP d mL_law 695 (ls) (.int v :: st) h Q) := w_iald (show j_ins mL_law 694 = some (49, 695, 0, 0, 0, 0, 0) from rfl)
set_option maxRecDepth 100000 in
theorem r_L_law_695 {d : Nat} {ls : List (Option Value)} {h : j_H} {Q : Option Value → j_H → Prop} {a0 : Nat} {a1 : Int32} {a2 : Int32} : WP (d + 1) mL_law 695 ls [.int a2, .int a1, .ref a0] h Q = gO (hg h a0) 10 (WP d mX10_inverse 0 [some (.ref a0), some (.int a1), some (.int a2), none] [] h (fun v h1 => WP (d + 1) mL_law 698 ls (pu v []) h1 Q)) := w_vir (k := 62) (ci := 10) (Or.inl rfl) (show j_ins mL_law 695 = some (62, 698, mX10_inverse, 2, 10, 105, 719) from rfl) rfl rfl rfl (Nat.le_of_ble_eq_true rfl) (Nat.le_of_ble_eq_true rfl) rfl
set_option maxRecDepth 100000 in
theorem r_L_law_698 {d : Nat} {ls : List (Option Value)} {st : List Value} {h : j_H} {Q : Option Value → j_H → Prop} {l0 l1 : Option Value} {v : Nat} : WP d mL_law 698 (l0 :: l1 :: some (.ref v) :: ls) (st) h Q = WP d mL_law 699 (l0 :: l1 :: some (.ref v) :: ls) (.ref v :: st) h Q := w_aload (show j_ins mL_law 698 = some (2, 699, 2, 0, 0, 0, 0) from rfl) rfl
set_option maxRecDepth 100000 in
theorem r_L_law_699 {d : Nat} {ls : List (Option Value)} {st : List Value} {h : j_H} {Q : Option Value → j_H → Prop} {v : Nat} : WP d mL_law 699 (some (.ref v) :: ls) (st) h Q = WP d mL_law 700 (some (.ref v) :: ls) (.ref v :: st) h Q := w_aload (show j_ins mL_law 699 = some (2, 700, 0, 0, 0, 0, 0) from rfl) rfl
set_option maxRecDepth 100000 in
theorem r_L_law_700 {d : Nat} {ls : List (Option Value)} {st : List Value} {h : j_H} {Q : Option Value → j_H → Prop} {l0 l1 l2 : Option Value} {v : Int32} : WP d mL_law 700 (l0 :: l1 :: l2 :: some (.int v) :: ls) (st) h Q = WP d mL_law 701 (l0 :: l1 :: l2 :: some (.int v) :: ls) (.int v :: st) h Q := w_iload (show j_ins mL_law 700 = some (0, 701, 3, 0, 0, 0, 0) from rfl) rfl
set_option maxRecDepth 100000 in
theorem r_L_law_701 {d : Nat} {ls : List (Option Value)} {st : List Value} {h : j_H} {Q : Option Value → j_H → Prop} : WP d mL_law 701 (ls) (st) h Q = WP d mL_law 702 (ls) (.int (nI 1) :: st) h Q := w_pushi (show j_ins mL_law 701 = some (6, 702, 0, 0, 1, 0, 0) from rfl) (by decide +kernel)
set_option maxRecDepth 100000 in
theorem r_L_law_702 {d : Nat} {ls : List (Option Value)} {st : List Value} {h : j_H} {Q : Option Value → j_H → Prop} {a b : Int32} : WP d mL_law 702 (ls) (.int b :: .int a :: st) h Q = WP d mL_law 703 (ls) (.int (a + b) :: st) h Q := w_iadd (show j_ins mL_law 702 = some (9, 703, 0, 0, 0, 0, 0) from rfl)
set_option maxRecDepth 100000 in
theorem r_L_law_703 {d : Nat} {ls : List (Option Value)} {st : List Value} {h : j_H} {Q : Option Value → j_H → Prop} {a : Nat} {i : Int32} : WP d mL_law 703 (ls) (.int i :: .ref a :: st) h Q = gI (hg h a) i (fun v => WP d mL_law 704 (ls) (.int v :: st) h Q) := w_iald (show j_ins mL_law 703 = some (49, 704, 0, 0, 0, 0, 0) from rfl)
set_option maxRecDepth 100000 in
theorem r_L_law_704 {d : Nat} {ls : List (Option Value)} {st : List Value} {h : j_H} {Q : Option Value → j_H → Prop} {v : Nat} : WP d mL_law 704 (some (.ref v) :: ls) (st) h Q = WP d mL_law 705 (some (.ref v) :: ls) (.ref v :: st) h Q := w_aload (show j_ins mL_law 704 = some (2, 705, 0, 0, 0, 0, 0) from rfl) rfl
set_option maxRecDepth 100000 in
theorem r_L_law_705 {d : Nat} {ls : List (Option Value)} {st : List Value} {h : j_H} {Q : Option Value → j_H → Prop} {l0 l1 l2 : Option Value} {v : Int32} : WP d mL_law 705 (l0 :: l1 :: l2 :: some (.int v) :: ls) (st) h Q = WP d mL_law 706 (l0 :: l1 :: l2 :: some (.int v) :: ls) (.int v :: st) h Q := w_iload (show j_ins mL_law 705 = some (0, 706, 3, 0, 0, 0, 0) from rfl) rfl
set_option maxRecDepth 100000 in
theorem r_L_law_706 {d : Nat} {ls : List (Option Value)} {st : List Value} {h : j_H} {Q : Option Value → j_H → Prop} : WP d mL_law 706 (ls) (st) h Q = WP d mL_law 707 (ls) (.int (nI 2) :: st) h Q := w_pushi (show j_ins mL_law 706 = some (6, 707, 0, 0, 2, 0, 0) from rfl) (by decide +kernel)
set_option maxRecDepth 100000 in
theorem r_L_law_707 {d : Nat} {ls : List (Option Value)} {st : List Value} {h : j_H} {Q : Option Value → j_H → Prop} {a b : Int32} : WP d mL_law 707 (ls) (.int b :: .int a :: st) h Q = WP d mL_law 708 (ls) (.int (a + b) :: st) h Q := w_iadd (show j_ins mL_law 707 = some (9, 708, 0, 0, 0, 0, 0) from rfl)
set_option maxRecDepth 100000 in
theorem r_L_law_708 {d : Nat} {ls : List (Option Value)} {st : List Value} {h : j_H} {Q : Option Value → j_H → Prop} {a : Nat} {i : Int32} : WP d mL_law 708 (ls) (.int i :: .ref a :: st) h Q = gI (hg h a) i (fun v => WP d mL_law 709 (ls) (.int v :: st) h Q) := w_iald (show j_ins mL_law 708 = some (49, 709, 0, 0, 0, 0, 0) from rfl)
set_option maxRecDepth 100000 in
theorem r_L_law_709 {d : Nat} {ls : List (Option Value)} {h : j_H} {Q : Option Value → j_H → Prop} {u0 : Value} {a0 : Nat} {a1 : Int32} {a2 : Int32} : WP (d + 1) mL_law 709 ls [.int a2, .int a1, .ref a0, u0] h Q = gO (hg h a0) 11 (WP d mX11_inverse 0 [some (.ref a0), some (.int a1), some (.int a2)] [] h (fun v h1 => WP (d + 1) mL_law 712 ls (pu v [u0]) h1 Q)) := w_vir (k := 62) (ci := 11) (Or.inl rfl) (show j_ins mL_law 709 = some (62, 712, mX11_inverse, 2, 11, 108, 1068) from rfl) rfl rfl rfl (Nat.le_of_ble_eq_true rfl) (Nat.le_of_ble_eq_true rfl) rfl
set_option maxRecDepth 100000 in
theorem r_L_law_712 {d : Nat} {ls : List (Option Value)} {st : List Value} {h : j_H} {Q : Option Value → j_H → Prop} {a b : Int32} : WP d mL_law 712 (ls) (.int b :: .int a :: st) h Q = (if a = b then WP d mL_law 794 (ls) (st) h Q else WP d mL_law 715 (ls) (st) h Q) := w_iceq (show j_ins mL_law 712 = some (36, 715, 794, 0, 82, 0, 0) from rfl)
set_option maxRecDepth 100000 in
theorem r_L_law_715 {d : Nat} {ls : List (Option Value)} {st : List Value} {h : j_H} {Q : Option Value → j_H → Prop} : WP d mL_law 715 (ls) (st) h Q = WP d mL_law 716 (ls) (.int (nI 0) :: st) h Q := w_pushi (show j_ins mL_law 715 = some (6, 716, 0, 0, 0, 0, 0) from rfl) (by decide +kernel)
set_option maxRecDepth 100000 in
theorem r_L_law_716 {d : Nat} {ls : List (Option Value)} {h : j_H} {Q : Option Value → j_H → Prop} {v : Bool} : WP d mL_law 716 ls [.int (bI v)] h Q = Q (some (.int (bI v))) h := w_zret (show j_ins mL_law 716 = some (65, 717, 0, 0, 1, 0, 0) from rfl) (bI_01 v)
set_option maxRecDepth 100000 in
theorem r_L_law_716_0 {d : Nat} {ls : List (Option Value)} {h : j_H} {Q : Option Value → j_H → Prop} : WP d mL_law 716 ls [.int (nI 0)] h Q = Q (some (.int (bI false))) h := w_zret (show j_ins mL_law 716 = some (65, 717, 0, 0, 1, 0, 0) from rfl) (Or.inl rfl)
set_option maxRecDepth 100000 in
theorem r_L_law_716_1 {d : Nat} {ls : List (Option Value)} {h : j_H} {Q : Option Value → j_H → Prop} : WP d mL_law 716 ls [.int (nI 1)] h Q = Q (some (.int (bI true))) h := w_zret (show j_ins mL_law 716 = some (65, 717, 0, 0, 1, 0, 0) from rfl) (Or.inr rfl)
set_option maxRecDepth 100000 in
theorem r_L_law_717 {d : Nat} {ls : List (Option Value)} {st : List Value} {h : j_H} {Q : Option Value → j_H → Prop} {l0 : Option Value} {v : Nat} : WP d mL_law 717 (l0 :: some (.ref v) :: ls) (st) h Q = WP d mL_law 718 (l0 :: some (.ref v) :: ls) (.ref v :: st) h Q := w_aload (show j_ins mL_law 717 = some (2, 718, 1, 0, 0, 0, 0) from rfl) rfl
set_option maxRecDepth 100000 in
theorem r_L_law_718 {d : Nat} {ls : List (Option Value)} {st : List Value} {h : j_H} {Q : Option Value → j_H → Prop} {v : Nat} : WP d mL_law 718 (some (.ref v) :: ls) (st) h Q = WP d mL_law 719 (some (.ref v) :: ls) (.ref v :: st) h Q := w_aload (show j_ins mL_law 718 = some (2, 719, 0, 0, 0, 0, 0) from rfl) rfl
set_option maxRecDepth 100000 in
theorem r_L_law_719 {d : Nat} {ls : List (Option Value)} {st : List Value} {h : j_H} {Q : Option Value → j_H → Prop} {l0 l1 l2 : Option Value} {v : Int32} : WP d mL_law 719 (l0 :: l1 :: l2 :: some (.int v) :: ls) (st) h Q = WP d mL_law 720 (l0 :: l1 :: l2 :: some (.int v) :: ls) (.int v :: st) h Q := w_iload (show j_ins mL_law 719 = some (0, 720, 3, 0, 0, 0, 0) from rfl) rfl
set_option maxRecDepth 100000 in
theorem r_L_law_720 {d : Nat} {ls : List (Option Value)} {st : List Value} {h : j_H} {Q : Option Value → j_H → Prop} : WP d mL_law 720 (ls) (st) h Q = WP d mL_law 721 (ls) (.int (nI 1) :: st) h Q := w_pushi (show j_ins mL_law 720 = some (6, 721, 0, 0, 1, 0, 0) from rfl) (by decide +kernel)
set_option maxRecDepth 100000 in
theorem r_L_law_721 {d : Nat} {ls : List (Option Value)} {st : List Value} {h : j_H} {Q : Option Value → j_H → Prop} {a b : Int32} : WP d mL_law 721 (ls) (.int b :: .int a :: st) h Q = WP d mL_law 722 (ls) (.int (a + b) :: st) h Q := w_iadd (show j_ins mL_law 721 = some (9, 722, 0, 0, 0, 0, 0) from rfl)
set_option maxRecDepth 100000 in
theorem r_L_law_722 {d : Nat} {ls : List (Option Value)} {st : List Value} {h : j_H} {Q : Option Value → j_H → Prop} {a : Nat} {i : Int32} : WP d mL_law 722 (ls) (.int i :: .ref a :: st) h Q = gI (hg h a) i (fun v => WP d mL_law 723 (ls) (.int v :: st) h Q) := w_iald (show j_ins mL_law 722 = some (49, 723, 0, 0, 0, 0, 0) from rfl)
set_option maxRecDepth 100000 in
theorem r_L_law_723 {d : Nat} {ls : List (Option Value)} {st : List Value} {h : j_H} {Q : Option Value → j_H → Prop} {v : Nat} : WP d mL_law 723 (some (.ref v) :: ls) (st) h Q = WP d mL_law 724 (some (.ref v) :: ls) (.ref v :: st) h Q := w_aload (show j_ins mL_law 723 = some (2, 724, 0, 0, 0, 0, 0) from rfl) rfl
set_option maxRecDepth 100000 in
theorem r_L_law_724 {d : Nat} {ls : List (Option Value)} {st : List Value} {h : j_H} {Q : Option Value → j_H → Prop} {l0 l1 l2 : Option Value} {v : Int32} : WP d mL_law 724 (l0 :: l1 :: l2 :: some (.int v) :: ls) (st) h Q = WP d mL_law 725 (l0 :: l1 :: l2 :: some (.int v) :: ls) (.int v :: st) h Q := w_iload (show j_ins mL_law 724 = some (0, 725, 3, 0, 0, 0, 0) from rfl) rfl
set_option maxRecDepth 100000 in
theorem r_L_law_725 {d : Nat} {ls : List (Option Value)} {st : List Value} {h : j_H} {Q : Option Value → j_H → Prop} : WP d mL_law 725 (ls) (st) h Q = WP d mL_law 726 (ls) (.int (nI 2) :: st) h Q := w_pushi (show j_ins mL_law 725 = some (6, 726, 0, 0, 2, 0, 0) from rfl) (by decide +kernel)
set_option maxRecDepth 100000 in
theorem r_L_law_726 {d : Nat} {ls : List (Option Value)} {st : List Value} {h : j_H} {Q : Option Value → j_H → Prop} {a b : Int32} : WP d mL_law 726 (ls) (.int b :: .int a :: st) h Q = WP d mL_law 727 (ls) (.int (a + b) :: st) h Q := w_iadd (show j_ins mL_law 726 = some (9, 727, 0, 0, 0, 0, 0) from rfl)
set_option maxRecDepth 100000 in
theorem r_L_law_727 {d : Nat} {ls : List (Option Value)} {st : List Value} {h : j_H} {Q : Option Value → j_H → Prop} {a : Nat} {i : Int32} : WP d mL_law 727 (ls) (.int i :: .ref a :: st) h Q = gI (hg h a) i (fun v => WP d mL_law 728 (ls) (.int v :: st) h Q) := w_iald (show j_ins mL_law 727 = some (49, 728, 0, 0, 0, 0, 0) from rfl)
set_option maxRecDepth 100000 in
theorem r_L_law_728 {d : Nat} {ls : List (Option Value)} {st : List Value} {h : j_H} {Q : Option Value → j_H → Prop} {v : Nat} : WP d mL_law 728 (some (.ref v) :: ls) (st) h Q = WP d mL_law 729 (some (.ref v) :: ls) (.ref v :: st) h Q := w_aload (show j_ins mL_law 728 = some (2, 729, 0, 0, 0, 0, 0) from rfl) rfl
set_option maxRecDepth 100000 in
theorem r_L_law_729 {d : Nat} {ls : List (Option Value)} {st : List Value} {h : j_H} {Q : Option Value → j_H → Prop} {l0 l1 l2 : Option Value} {v : Int32} : WP d mL_law 729 (l0 :: l1 :: l2 :: some (.int v) :: ls) (st) h Q = WP d mL_law 730 (l0 :: l1 :: l2 :: some (.int v) :: ls) (.int v :: st) h Q := w_iload (show j_ins mL_law 729 = some (0, 730, 3, 0, 0, 0, 0) from rfl) rfl
set_option maxRecDepth 100000 in
theorem r_L_law_730 {d : Nat} {ls : List (Option Value)} {st : List Value} {h : j_H} {Q : Option Value → j_H → Prop} : WP d mL_law 730 (ls) (st) h Q = WP d mL_law 731 (ls) (.int (nI 3) :: st) h Q := w_pushi (show j_ins mL_law 730 = some (6, 731, 0, 0, 3, 0, 0) from rfl) (by decide +kernel)
set_option maxRecDepth 100000 in
theorem r_L_law_731 {d : Nat} {ls : List (Option Value)} {st : List Value} {h : j_H} {Q : Option Value → j_H → Prop} {a b : Int32} : WP d mL_law 731 (ls) (.int b :: .int a :: st) h Q = WP d mL_law 732 (ls) (.int (a + b) :: st) h Q := w_iadd (show j_ins mL_law 731 = some (9, 732, 0, 0, 0, 0, 0) from rfl)
set_option maxRecDepth 100000 in
theorem r_L_law_732 {d : Nat} {ls : List (Option Value)} {st : List Value} {h : j_H} {Q : Option Value → j_H → Prop} {a : Nat} {i : Int32} : WP d mL_law 732 (ls) (.int i :: .ref a :: st) h Q = gI (hg h a) i (fun v => WP d mL_law 733 (ls) (.int v :: st) h Q) := w_iald (show j_ins mL_law 732 = some (49, 733, 0, 0, 0, 0, 0) from rfl)
set_option maxRecDepth 100000 in
theorem r_L_law_733 {d : Nat} {ls : List (Option Value)} {h : j_H} {Q : Option Value → j_H → Prop} {a0 : Nat} {a1 : Int32} {a2 : Int32} {a3 : Int32} : WP (d + 1) mL_law 733 ls [.int a3, .int a2, .int a1, .ref a0] h Q = gO (hg h a0) 10 (WP d mX10_changed 0 [some (.ref a0), some (.int a1), some (.int a2), some (.int a3)] [] h (fun v h1 => WP (d + 1) mL_law 736 ls (pu v []) h1 Q)) := w_vir (k := 62) (ci := 10) (Or.inl rfl) (show j_ins mL_law 733 = some (62, 736, mX10_changed, 3, 10, 109, 723) from rfl) rfl rfl rfl (Nat.le_of_ble_eq_true rfl) (Nat.le_of_ble_eq_true rfl) rfl
set_option maxRecDepth 100000 in
theorem r_L_law_736 {d : Nat} {ls : List (Option Value)} {st : List Value} {h : j_H} {Q : Option Value → j_H → Prop} {l0 l1 : Option Value} {v : Nat} : WP d mL_law 736 (l0 :: l1 :: some (.ref v) :: ls) (st) h Q = WP d mL_law 737 (l0 :: l1 :: some (.ref v) :: ls) (.ref v :: st) h Q := w_aload (show j_ins mL_law 736 = some (2, 737, 2, 0, 0, 0, 0) from rfl) rfl
set_option maxRecDepth 100000 in
theorem r_L_law_737 {d : Nat} {ls : List (Option Value)} {st : List Value} {h : j_H} {Q : Option Value → j_H → Prop} {v : Nat} : WP d mL_law 737 (some (.ref v) :: ls) (st) h Q = WP d mL_law 738 (some (.ref v) :: ls) (.ref v :: st) h Q := w_aload (show j_ins mL_law 737 = some (2, 738, 0, 0, 0, 0, 0) from rfl) rfl
set_option maxRecDepth 100000 in
theorem r_L_law_738 {d : Nat} {ls : List (Option Value)} {st : List Value} {h : j_H} {Q : Option Value → j_H → Prop} {l0 l1 l2 : Option Value} {v : Int32} : WP d mL_law 738 (l0 :: l1 :: l2 :: some (.int v) :: ls) (st) h Q = WP d mL_law 739 (l0 :: l1 :: l2 :: some (.int v) :: ls) (.int v :: st) h Q := w_iload (show j_ins mL_law 738 = some (0, 739, 3, 0, 0, 0, 0) from rfl) rfl
set_option maxRecDepth 100000 in
theorem r_L_law_739 {d : Nat} {ls : List (Option Value)} {st : List Value} {h : j_H} {Q : Option Value → j_H → Prop} : WP d mL_law 739 (ls) (st) h Q = WP d mL_law 740 (ls) (.int (nI 1) :: st) h Q := w_pushi (show j_ins mL_law 739 = some (6, 740, 0, 0, 1, 0, 0) from rfl) (by decide +kernel)
set_option maxRecDepth 100000 in
theorem r_L_law_740 {d : Nat} {ls : List (Option Value)} {st : List Value} {h : j_H} {Q : Option Value → j_H → Prop} {a b : Int32} : WP d mL_law 740 (ls) (.int b :: .int a :: st) h Q = WP d mL_law 741 (ls) (.int (a + b) :: st) h Q := w_iadd (show j_ins mL_law 740 = some (9, 741, 0, 0, 0, 0, 0) from rfl)
set_option maxRecDepth 100000 in
theorem r_L_law_741 {d : Nat} {ls : List (Option Value)} {st : List Value} {h : j_H} {Q : Option Value → j_H → Prop} {a : Nat} {i : Int32} : WP d mL_law 741 (ls) (.int i :: .ref a :: st) h Q = gI (hg h a) i (fun v => WP d mL_law 742 (ls) (.int v :: st) h Q) := w_iald (show j_ins mL_law 741 = some (49, 742, 0, 0, 0, 0, 0) from rfl)
set_option maxRecDepth 100000 in
theorem r_L_law_742 {d : Nat} {ls : List (Option Value)} {st : List Value} {h : j_H} {Q : Option Value → j_H → Prop} {v : Nat} : WP d mL_law 742 (some (.ref v) :: ls) (st) h Q = WP d mL_law 743 (some (.ref v) :: ls) (.ref v :: st) h Q := w_aload (show j_ins mL_law 742 = some (2, 743, 0, 0, 0, 0, 0) from rfl) rfl
set_option maxRecDepth 100000 in
theorem r_L_law_743 {d : Nat} {ls : List (Option Value)} {st : List Value} {h : j_H} {Q : Option Value → j_H → Prop} {l0 l1 l2 : Option Value} {v : Int32} : WP d mL_law 743 (l0 :: l1 :: l2 :: some (.int v) :: ls) (st) h Q = WP d mL_law 744 (l0 :: l1 :: l2 :: some (.int v) :: ls) (.int v :: st) h Q := w_iload (show j_ins mL_law 743 = some (0, 744, 3, 0, 0, 0, 0) from rfl) rfl
set_option maxRecDepth 100000 in
theorem r_L_law_744 {d : Nat} {ls : List (Option Value)} {st : List Value} {h : j_H} {Q : Option Value → j_H → Prop} : WP d mL_law 744 (ls) (st) h Q = WP d mL_law 745 (ls) (.int (nI 2) :: st) h Q := w_pushi (show j_ins mL_law 744 = some (6, 745, 0, 0, 2, 0, 0) from rfl) (by decide +kernel)
set_option maxRecDepth 100000 in
theorem r_L_law_745 {d : Nat} {ls : List (Option Value)} {st : List Value} {h : j_H} {Q : Option Value → j_H → Prop} {a b : Int32} : WP d mL_law 745 (ls) (.int b :: .int a :: st) h Q = WP d mL_law 746 (ls) (.int (a + b) :: st) h Q := w_iadd (show j_ins mL_law 745 = some (9, 746, 0, 0, 0, 0, 0) from rfl)
set_option maxRecDepth 100000 in
theorem r_L_law_746 {d : Nat} {ls : List (Option Value)} {st : List Value} {h : j_H} {Q : Option Value → j_H → Prop} {a : Nat} {i : Int32} : WP d mL_law 746 (ls) (.int i :: .ref a :: st) h Q = gI (hg h a) i (fun v => WP d mL_law 747 (ls) (.int v :: st) h Q) := w_iald (show j_ins mL_law 746 = some (49, 747, 0, 0, 0, 0, 0) from rfl)
set_option maxRecDepth 100000 in
theorem r_L_law_747 {d : Nat} {ls : List (Option Value)} {st : List Value} {h : j_H} {Q : Option Value → j_H → Prop} {v : Nat} : WP d mL_law 747 (some (.ref v) :: ls) (st) h Q = WP d mL_law 748 (some (.ref v) :: ls) (.ref v :: st) h Q := w_aload (show j_ins mL_law 747 = some (2, 748, 0, 0, 0, 0, 0) from rfl) rfl
set_option maxRecDepth 100000 in
theorem r_L_law_748 {d : Nat} {ls : List (Option Value)} {st : List Value} {h : j_H} {Q : Option Value → j_H → Prop} {l0 l1 l2 : Option Value} {v : Int32} : WP d mL_law 748 (l0 :: l1 :: l2 :: some (.int v) :: ls) (st) h Q = WP d mL_law 749 (l0 :: l1 :: l2 :: some (.int v) :: ls) (.int v :: st) h Q := w_iload (show j_ins mL_law 748 = some (0, 749, 3, 0, 0, 0, 0) from rfl) rfl
set_option maxRecDepth 100000 in
theorem r_L_law_749 {d : Nat} {ls : List (Option Value)} {st : List Value} {h : j_H} {Q : Option Value → j_H → Prop} : WP d mL_law 749 (ls) (st) h Q = WP d mL_law 750 (ls) (.int (nI 3) :: st) h Q := w_pushi (show j_ins mL_law 749 = some (6, 750, 0, 0, 3, 0, 0) from rfl) (by decide +kernel)
set_option maxRecDepth 100000 in
theorem r_L_law_750 {d : Nat} {ls : List (Option Value)} {st : List Value} {h : j_H} {Q : Option Value → j_H → Prop} {a b : Int32} : WP d mL_law 750 (ls) (.int b :: .int a :: st) h Q = WP d mL_law 751 (ls) (.int (a + b) :: st) h Q := w_iadd (show j_ins mL_law 750 = some (9, 751, 0, 0, 0, 0, 0) from rfl)
set_option maxRecDepth 100000 in
theorem r_L_law_751 {d : Nat} {ls : List (Option Value)} {st : List Value} {h : j_H} {Q : Option Value → j_H → Prop} {a : Nat} {i : Int32} : WP d mL_law 751 (ls) (.int i :: .ref a :: st) h Q = gI (hg h a) i (fun v => WP d mL_law 752 (ls) (.int v :: st) h Q) := w_iald (show j_ins mL_law 751 = some (49, 752, 0, 0, 0, 0, 0) from rfl)
set_option maxRecDepth 100000 in
theorem r_L_law_752 {d : Nat} {ls : List (Option Value)} {h : j_H} {Q : Option Value → j_H → Prop} {u0 : Value} {a0 : Nat} {a1 : Int32} {a2 : Int32} {a3 : Int32} : WP (d + 1) mL_law 752 ls [.int a3, .int a2, .int a1, .ref a0, u0] h Q = gO (hg h a0) 11 (WP d mX11_changed 0 [some (.ref a0), some (.int a1), some (.int a2), some (.int a3)] [] h (fun v h1 => WP (d + 1) mL_law 755 ls (pu v [u0]) h1 Q)) := w_vir (k := 62) (ci := 11) (Or.inl rfl) (show j_ins mL_law 752 = some (62, 755, mX11_changed, 3, 11, 112, 1072) from rfl) rfl rfl rfl (Nat.le_of_ble_eq_true rfl) (Nat.le_of_ble_eq_true rfl) rfl
set_option maxRecDepth 100000 in
theorem r_L_law_755 {d : Nat} {ls : List (Option Value)} {st : List Value} {h : j_H} {Q : Option Value → j_H → Prop} {a b : Int32} : WP d mL_law 755 (ls) (.int b :: .int a :: st) h Q = (if a = b then WP d mL_law 794 (ls) (st) h Q else WP d mL_law 758 (ls) (st) h Q) := w_iceq (show j_ins mL_law 755 = some (36, 758, 794, 0, 39, 0, 0) from rfl)
set_option maxRecDepth 100000 in
theorem r_L_law_758 {d : Nat} {ls : List (Option Value)} {st : List Value} {h : j_H} {Q : Option Value → j_H → Prop} : WP d mL_law 758 (ls) (st) h Q = WP d mL_law 759 (ls) (.int (nI 0) :: st) h Q := w_pushi (show j_ins mL_law 758 = some (6, 759, 0, 0, 0, 0, 0) from rfl) (by decide +kernel)
set_option maxRecDepth 100000 in
theorem r_L_law_759 {d : Nat} {ls : List (Option Value)} {h : j_H} {Q : Option Value → j_H → Prop} {v : Bool} : WP d mL_law 759 ls [.int (bI v)] h Q = Q (some (.int (bI v))) h := w_zret (show j_ins mL_law 759 = some (65, 760, 0, 0, 1, 0, 0) from rfl) (bI_01 v)
set_option maxRecDepth 100000 in
theorem r_L_law_759_0 {d : Nat} {ls : List (Option Value)} {h : j_H} {Q : Option Value → j_H → Prop} : WP d mL_law 759 ls [.int (nI 0)] h Q = Q (some (.int (bI false))) h := w_zret (show j_ins mL_law 759 = some (65, 760, 0, 0, 1, 0, 0) from rfl) (Or.inl rfl)
set_option maxRecDepth 100000 in
theorem r_L_law_759_1 {d : Nat} {ls : List (Option Value)} {h : j_H} {Q : Option Value → j_H → Prop} : WP d mL_law 759 ls [.int (nI 1)] h Q = Q (some (.int (bI true))) h := w_zret (show j_ins mL_law 759 = some (65, 760, 0, 0, 1, 0, 0) from rfl) (Or.inr rfl)
set_option maxRecDepth 100000 in
theorem r_L_law_760 {d : Nat} {ls : List (Option Value)} {st : List Value} {h : j_H} {Q : Option Value → j_H → Prop} {l0 : Option Value} {v : Nat} : WP d mL_law 760 (l0 :: some (.ref v) :: ls) (st) h Q = WP d mL_law 761 (l0 :: some (.ref v) :: ls) (.ref v :: st) h Q := w_aload (show j_ins mL_law 760 = some (2, 761, 1, 0, 0, 0, 0) from rfl) rfl
set_option maxRecDepth 100000 in
theorem r_L_law_761 {d : Nat} {ls : List (Option Value)} {st : List Value} {h : j_H} {Q : Option Value → j_H → Prop} {v : Nat} : WP d mL_law 761 (some (.ref v) :: ls) (st) h Q = WP d mL_law 762 (some (.ref v) :: ls) (.ref v :: st) h Q := w_aload (show j_ins mL_law 761 = some (2, 762, 0, 0, 0, 0, 0) from rfl) rfl
set_option maxRecDepth 100000 in
theorem r_L_law_762 {d : Nat} {ls : List (Option Value)} {st : List Value} {h : j_H} {Q : Option Value → j_H → Prop} {l0 l1 l2 : Option Value} {v : Int32} : WP d mL_law 762 (l0 :: l1 :: l2 :: some (.int v) :: ls) (st) h Q = WP d mL_law 763 (l0 :: l1 :: l2 :: some (.int v) :: ls) (.int v :: st) h Q := w_iload (show j_ins mL_law 762 = some (0, 763, 3, 0, 0, 0, 0) from rfl) rfl
set_option maxRecDepth 100000 in
theorem r_L_law_763 {d : Nat} {ls : List (Option Value)} {st : List Value} {h : j_H} {Q : Option Value → j_H → Prop} : WP d mL_law 763 (ls) (st) h Q = WP d mL_law 764 (ls) (.int (nI 1) :: st) h Q := w_pushi (show j_ins mL_law 763 = some (6, 764, 0, 0, 1, 0, 0) from rfl) (by decide +kernel)
set_option maxRecDepth 100000 in
theorem r_L_law_764 {d : Nat} {ls : List (Option Value)} {st : List Value} {h : j_H} {Q : Option Value → j_H → Prop} {a b : Int32} : WP d mL_law 764 (ls) (.int b :: .int a :: st) h Q = WP d mL_law 765 (ls) (.int (a + b) :: st) h Q := w_iadd (show j_ins mL_law 764 = some (9, 765, 0, 0, 0, 0, 0) from rfl)
set_option maxRecDepth 100000 in
theorem r_L_law_765 {d : Nat} {ls : List (Option Value)} {st : List Value} {h : j_H} {Q : Option Value → j_H → Prop} {a : Nat} {i : Int32} : WP d mL_law 765 (ls) (.int i :: .ref a :: st) h Q = gI (hg h a) i (fun v => WP d mL_law 766 (ls) (.int v :: st) h Q) := w_iald (show j_ins mL_law 765 = some (49, 766, 0, 0, 0, 0, 0) from rfl)
set_option maxRecDepth 100000 in
theorem r_L_law_766 {d : Nat} {ls : List (Option Value)} {st : List Value} {h : j_H} {Q : Option Value → j_H → Prop} {v : Nat} : WP d mL_law 766 (some (.ref v) :: ls) (st) h Q = WP d mL_law 767 (some (.ref v) :: ls) (.ref v :: st) h Q := w_aload (show j_ins mL_law 766 = some (2, 767, 0, 0, 0, 0, 0) from rfl) rfl
set_option maxRecDepth 100000 in
theorem r_L_law_767 {d : Nat} {ls : List (Option Value)} {st : List Value} {h : j_H} {Q : Option Value → j_H → Prop} {l0 l1 l2 : Option Value} {v : Int32} : WP d mL_law 767 (l0 :: l1 :: l2 :: some (.int v) :: ls) (st) h Q = WP d mL_law 768 (l0 :: l1 :: l2 :: some (.int v) :: ls) (.int v :: st) h Q := w_iload (show j_ins mL_law 767 = some (0, 768, 3, 0, 0, 0, 0) from rfl) rfl
set_option maxRecDepth 100000 in
theorem r_L_law_768 {d : Nat} {ls : List (Option Value)} {st : List Value} {h : j_H} {Q : Option Value → j_H → Prop} : WP d mL_law 768 (ls) (st) h Q = WP d mL_law 769 (ls) (.int (nI 2) :: st) h Q := w_pushi (show j_ins mL_law 768 = some (6, 769, 0, 0, 2, 0, 0) from rfl) (by decide +kernel)
set_option maxRecDepth 100000 in
theorem r_L_law_769 {d : Nat} {ls : List (Option Value)} {st : List Value} {h : j_H} {Q : Option Value → j_H → Prop} {a b : Int32} : WP d mL_law 769 (ls) (.int b :: .int a :: st) h Q = WP d mL_law 770 (ls) (.int (a + b) :: st) h Q := w_iadd (show j_ins mL_law 769 = some (9, 770, 0, 0, 0, 0, 0) from rfl)
set_option maxRecDepth 100000 in
theorem r_L_law_770 {d : Nat} {ls : List (Option Value)} {st : List Value} {h : j_H} {Q : Option Value → j_H → Prop} {a : Nat} {i : Int32} : WP d mL_law 770 (ls) (.int i :: .ref a :: st) h Q = gI (hg h a) i (fun v => WP d mL_law 771 (ls) (.int v :: st) h Q) := w_iald (show j_ins mL_law 770 = some (49, 771, 0, 0, 0, 0, 0) from rfl)
set_option maxRecDepth 100000 in
theorem r_L_law_771 {d : Nat} {ls : List (Option Value)} {h : j_H} {Q : Option Value → j_H → Prop} {a0 : Nat} {a1 : Int32} {a2 : Int32} : WP (d + 1) mL_law 771 ls [.int a2, .int a1, .ref a0] h Q = gO (hg h a0) 10 (WP d mX10_exact 0 [some (.ref a0), some (.int a1), some (.int a2), none, none, none, none] [] h (fun v h1 => WP (d + 1) mL_law 774 ls (pu v []) h1 Q)) := w_vir (k := 62) (ci := 10) (Or.inl rfl) (show j_ins mL_law 771 = some (62, 774, mX10_exact, 2, 10, 113, 728) from rfl) rfl rfl rfl (Nat.le_of_ble_eq_true rfl) (Nat.le_of_ble_eq_true rfl) rfl
set_option maxRecDepth 100000 in
theorem r_L_law_774 {d : Nat} {ls : List (Option Value)} {st : List Value} {h : j_H} {Q : Option Value → j_H → Prop} {l0 l1 : Option Value} {v : Nat} : WP d mL_law 774 (l0 :: l1 :: some (.ref v) :: ls) (st) h Q = WP d mL_law 775 (l0 :: l1 :: some (.ref v) :: ls) (.ref v :: st) h Q := w_aload (show j_ins mL_law 774 = some (2, 775, 2, 0, 0, 0, 0) from rfl) rfl
set_option maxRecDepth 100000 in
theorem r_L_law_775 {d : Nat} {ls : List (Option Value)} {st : List Value} {h : j_H} {Q : Option Value → j_H → Prop} {v : Nat} : WP d mL_law 775 (some (.ref v) :: ls) (st) h Q = WP d mL_law 776 (some (.ref v) :: ls) (.ref v :: st) h Q := w_aload (show j_ins mL_law 775 = some (2, 776, 0, 0, 0, 0, 0) from rfl) rfl
set_option maxRecDepth 100000 in
theorem r_L_law_776 {d : Nat} {ls : List (Option Value)} {st : List Value} {h : j_H} {Q : Option Value → j_H → Prop} {l0 l1 l2 : Option Value} {v : Int32} : WP d mL_law 776 (l0 :: l1 :: l2 :: some (.int v) :: ls) (st) h Q = WP d mL_law 777 (l0 :: l1 :: l2 :: some (.int v) :: ls) (.int v :: st) h Q := w_iload (show j_ins mL_law 776 = some (0, 777, 3, 0, 0, 0, 0) from rfl) rfl
set_option maxRecDepth 100000 in
theorem r_L_law_777 {d : Nat} {ls : List (Option Value)} {st : List Value} {h : j_H} {Q : Option Value → j_H → Prop} : WP d mL_law 777 (ls) (st) h Q = WP d mL_law 778 (ls) (.int (nI 1) :: st) h Q := w_pushi (show j_ins mL_law 777 = some (6, 778, 0, 0, 1, 0, 0) from rfl) (by decide +kernel)
set_option maxRecDepth 100000 in
theorem r_L_law_778 {d : Nat} {ls : List (Option Value)} {st : List Value} {h : j_H} {Q : Option Value → j_H → Prop} {a b : Int32} : WP d mL_law 778 (ls) (.int b :: .int a :: st) h Q = WP d mL_law 779 (ls) (.int (a + b) :: st) h Q := w_iadd (show j_ins mL_law 778 = some (9, 779, 0, 0, 0, 0, 0) from rfl)
set_option maxRecDepth 100000 in
theorem r_L_law_779 {d : Nat} {ls : List (Option Value)} {st : List Value} {h : j_H} {Q : Option Value → j_H → Prop} {a : Nat} {i : Int32} : WP d mL_law 779 (ls) (.int i :: .ref a :: st) h Q = gI (hg h a) i (fun v => WP d mL_law 780 (ls) (.int v :: st) h Q) := w_iald (show j_ins mL_law 779 = some (49, 780, 0, 0, 0, 0, 0) from rfl)
set_option maxRecDepth 100000 in
theorem r_L_law_780 {d : Nat} {ls : List (Option Value)} {st : List Value} {h : j_H} {Q : Option Value → j_H → Prop} {v : Nat} : WP d mL_law 780 (some (.ref v) :: ls) (st) h Q = WP d mL_law 781 (some (.ref v) :: ls) (.ref v :: st) h Q := w_aload (show j_ins mL_law 780 = some (2, 781, 0, 0, 0, 0, 0) from rfl) rfl
set_option maxRecDepth 100000 in
theorem r_L_law_781 {d : Nat} {ls : List (Option Value)} {st : List Value} {h : j_H} {Q : Option Value → j_H → Prop} {l0 l1 l2 : Option Value} {v : Int32} : WP d mL_law 781 (l0 :: l1 :: l2 :: some (.int v) :: ls) (st) h Q = WP d mL_law 782 (l0 :: l1 :: l2 :: some (.int v) :: ls) (.int v :: st) h Q := w_iload (show j_ins mL_law 781 = some (0, 782, 3, 0, 0, 0, 0) from rfl) rfl
set_option maxRecDepth 100000 in
theorem r_L_law_782 {d : Nat} {ls : List (Option Value)} {st : List Value} {h : j_H} {Q : Option Value → j_H → Prop} : WP d mL_law 782 (ls) (st) h Q = WP d mL_law 783 (ls) (.int (nI 2) :: st) h Q := w_pushi (show j_ins mL_law 782 = some (6, 783, 0, 0, 2, 0, 0) from rfl) (by decide +kernel)
set_option maxRecDepth 100000 in
theorem r_L_law_783 {d : Nat} {ls : List (Option Value)} {st : List Value} {h : j_H} {Q : Option Value → j_H → Prop} {a b : Int32} : WP d mL_law 783 (ls) (.int b :: .int a :: st) h Q = WP d mL_law 784 (ls) (.int (a + b) :: st) h Q := w_iadd (show j_ins mL_law 783 = some (9, 784, 0, 0, 0, 0, 0) from rfl)
set_option maxRecDepth 100000 in
theorem r_L_law_784 {d : Nat} {ls : List (Option Value)} {st : List Value} {h : j_H} {Q : Option Value → j_H → Prop} {a : Nat} {i : Int32} : WP d mL_law 784 (ls) (.int i :: .ref a :: st) h Q = gI (hg h a) i (fun v => WP d mL_law 785 (ls) (.int v :: st) h Q) := w_iald (show j_ins mL_law 784 = some (49, 785, 0, 0, 0, 0, 0) from rfl)
set_option maxRecDepth 100000 in
theorem r_L_law_785 {d : Nat} {ls : List (Option Value)} {h : j_H} {Q : Option Value → j_H → Prop} {u0 : Value} {a0 : Nat} {a1 : Int32} {a2 : Int32} : WP (d + 1) mL_law 785 ls [.int a2, .int a1, .ref a0, u0] h Q = gO (hg h a0) 11 (WP d mX11_exact 0 [some (.ref a0), some (.int a1), some (.int a2), none, none, none, none, none, none] [] h (fun v h1 => WP (d + 1) mL_law 788 ls (pu v [u0]) h1 Q)) := w_vir (k := 62) (ci := 11) (Or.inl rfl) (show j_ins mL_law 785 = some (62, 788, mX11_exact, 2, 11, 117, 1076) from rfl) rfl rfl rfl (Nat.le_of_ble_eq_true rfl) (Nat.le_of_ble_eq_true rfl) rfl
set_option maxRecDepth 100000 in
theorem r_L_law_788 {d : Nat} {ls : List (Option Value)} {st : List Value} {h : j_H} {Q : Option Value → j_H → Prop} {a b : Int64} : WP d mL_law 788 (ls) (.long b :: .long a :: st) h Q = WP d mL_law 789 (ls) (.int (lg_cmp a b) :: st) h Q := w_lcmp (show j_ins mL_law 788 = some (27, 789, 0, 0, 0, 0, 0) from rfl)
set_option maxRecDepth 100000 in
theorem r_L_law_789 {d : Nat} {ls : List (Option Value)} {st : List Value} {h : j_H} {Q : Option Value → j_H → Prop} {a : Int32} : WP d mL_law 789 (ls) (.int a :: st) h Q = (if a = 0 then WP d mL_law 794 (ls) (st) h Q else WP d mL_law 792 (ls) (st) h Q) := w_ifeq (show j_ins mL_law 789 = some (30, 792, 794, 0, 5, 0, 0) from rfl)
set_option maxRecDepth 100000 in
theorem r_L_law_792 {d : Nat} {ls : List (Option Value)} {st : List Value} {h : j_H} {Q : Option Value → j_H → Prop} : WP d mL_law 792 (ls) (st) h Q = WP d mL_law 793 (ls) (.int (nI 0) :: st) h Q := w_pushi (show j_ins mL_law 792 = some (6, 793, 0, 0, 0, 0, 0) from rfl) (by decide +kernel)
set_option maxRecDepth 100000 in
theorem r_L_law_793 {d : Nat} {ls : List (Option Value)} {h : j_H} {Q : Option Value → j_H → Prop} {v : Bool} : WP d mL_law 793 ls [.int (bI v)] h Q = Q (some (.int (bI v))) h := w_zret (show j_ins mL_law 793 = some (65, 794, 0, 0, 1, 0, 0) from rfl) (bI_01 v)
set_option maxRecDepth 100000 in
theorem r_L_law_793_0 {d : Nat} {ls : List (Option Value)} {h : j_H} {Q : Option Value → j_H → Prop} : WP d mL_law 793 ls [.int (nI 0)] h Q = Q (some (.int (bI false))) h := w_zret (show j_ins mL_law 793 = some (65, 794, 0, 0, 1, 0, 0) from rfl) (Or.inl rfl)
set_option maxRecDepth 100000 in
theorem r_L_law_793_1 {d : Nat} {ls : List (Option Value)} {h : j_H} {Q : Option Value → j_H → Prop} : WP d mL_law 793 ls [.int (nI 1)] h Q = Q (some (.int (bI true))) h := w_zret (show j_ins mL_law 793 = some (65, 794, 0, 0, 1, 0, 0) from rfl) (Or.inr rfl)
set_option maxRecDepth 100000 in
theorem r_L_law_794 {d : Nat} {ls : List (Option Value)} {st : List Value} {h : j_H} {Q : Option Value → j_H → Prop} {l0 l1 l2 : Option Value} {v : Int32} : WP d mL_law 794 (l0 :: l1 :: l2 :: some (.int v) :: ls) (st) h Q = WP d mL_law 797 (l0 :: l1 :: cl l2 :: some (.int (v + nI 4)) :: ls) (st) h Q := w_iinc (show j_ins mL_law 794 = some (8, 797, 3, 0, 4, 0, 0) from rfl) rfl (by decide +kernel) rfl
set_option maxRecDepth 100000 in
theorem r_L_law_797 {d : Nat} {ls : List (Option Value)} {st : List Value} {h : j_H} {Q : Option Value → j_H → Prop} : WP d mL_law 797 (ls) (st) h Q = WP d mL_law 18 (ls) (st) h Q := w_goto (show j_ins mL_law 797 = some (42, 800, 18, 0, (-779), 0, 0) from rfl)
set_option maxRecDepth 100000 in
theorem r_L_law_800 {d : Nat} {ls : List (Option Value)} {st : List Value} {h : j_H} {Q : Option Value → j_H → Prop} : WP d mL_law 800 (ls) (st) h Q = WP d mL_law 801 (ls) (.int (nI 1) :: st) h Q := w_pushi (show j_ins mL_law 800 = some (6, 801, 0, 0, 1, 0, 0) from rfl) (by decide +kernel)
set_option maxRecDepth 100000 in
theorem r_L_law_801 {d : Nat} {ls : List (Option Value)} {h : j_H} {Q : Option Value → j_H → Prop} {v : Bool} : WP d mL_law 801 ls [.int (bI v)] h Q = Q (some (.int (bI v))) h := w_zret (show j_ins mL_law 801 = some (65, 802, 0, 0, 1, 0, 0) from rfl) (bI_01 v)
set_option maxRecDepth 100000 in
theorem r_L_law_801_0 {d : Nat} {ls : List (Option Value)} {h : j_H} {Q : Option Value → j_H → Prop} : WP d mL_law 801 ls [.int (nI 0)] h Q = Q (some (.int (bI false))) h := w_zret (show j_ins mL_law 801 = some (65, 802, 0, 0, 1, 0, 0) from rfl) (Or.inl rfl)
set_option maxRecDepth 100000 in
theorem r_L_law_801_1 {d : Nat} {ls : List (Option Value)} {h : j_H} {Q : Option Value → j_H → Prop} : WP d mL_law 801 ls [.int (nI 1)] h Q = Q (some (.int (bI true))) h := w_zret (show j_ins mL_law 801 = some (65, 802, 0, 0, 1, 0, 0) from rfl) (Or.inr rfl)
