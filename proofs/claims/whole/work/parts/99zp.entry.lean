section ENTRY
def nfl : List Cond := flatC (Jvm.Cond.and given_1 narrow_1)
def zsI : List Nat := [245, 247, 249, 250, 252, 254, 255, 129, 141, 152, 157, 161, 166, 168, 184, 193, 202, 204, 232, 234]
def zsJ : List Nat := [137, 139, 141, 143, 144, 146, 148, 221, 227, 229, 231, 233, 235, 237, 243, 247, 249, 251, 257, 259]
def tmS (i : Nat) : Term := .string (kR 5) (zsI.getD i 0)
def tmV (i : Nat) : Term := .field (tmS i) "java/lang/String" "value" "[B"
def tmJ (i : Nat) : Term := .string (kR 10) (zsJ.getD i 0)
def wat (l : List Cond) (k : Nat) (c : Cond) : Bool := decide (l[k]? = some c)
theorem wat_mem {l : List Cond} {k : Nat} {c : Cond} (h : wat l k c = true) : c ∈ l := List.mem_of_getElem? (of_decide_eq_true h)
set_option maxRecDepth 100000 in
theorem st_tab : ∀ i : Fin 20, wat nfl ([32, 40, 50, 59, 68, 78, 88, 96, 105, 112, 122, 130, 139, 146, 154, 160, 168, 174, 182, 190].getD i.val 0) (.exactly (tmS i.val) "java/lang/String") = true ∧ wat nfl ([33, 41, 51, 60, 69, 79, 89, 97, 106, 113, 123, 131, 140, 147, 155, 161, 169, 175, 183, 191].getD i.val 0) (.eq (.field (tmS i.val) "java/lang/String" "code\x72" "B") (.int 0)) = true ∧ wat nfl ([34, 42, 52, 61, 70, 80, 90, 98, 107, 114, 124, 132, 141, 148, 156, 162, 170, 176, 184, 192].getD i.val 0) (.arrayOf (tmV i.val) .byte) = true ∧ wat nfl ([35, 43, 53, 62, 71, 81, 91, 99, 108, 115, 125, 133, 142, 149, 157, 163, 171, 177, 185, 193].getD i.val 0) (.eq (.length (tmV i.val)) (.int (Int32.ofNat (strLen.getD i.val 0)))) = true ∧ (∀ j : Fin 8, j.val < strLen.getD i.val 0 → wat nfl ([36, 44, 54, 63, 72, 82, 92, 100, 109, 116, 126, 134, 143, 150, 158, 164, 172, 178, 186, 194].getD i.val 0 + j.val) (.eq (.elem (tmV i.val) (.int (Int32.ofNat j.val))) (.int ((strByt.getD i.val []).getD j.val 0))) = true) ∧ wat nfl ([207, 256, 293, 303, 314, 325, 334, 217, 225, 236, 245, 266, 274, 283, 341, 350, 357, 366, 375, 385].getD i.val 0) (.eq (tmS i.val) (tmJ i.val)) = true := by decide +kernel
def zsp : List Nat := [560, 613, 614, 615, 616, 617, 618, 633, 642, 647, 648, 653, 654, 655, 698, 708, 713, 714, 738, 739, 1607, 1622, 1647, 1648, 1649, 1653, 1662, 1663, 1664, 1665, 1678, 1679, 1680, 1681, 1690, 1695, 1700, 1701, 1716, 1717]
set_option maxRecDepth 100000 in
theorem st_ref : (strL.zip zsp).all (fun z => wat lw_tbl z.2 (.stringRef (kR z.1.1) z.1.2.1 (strTx.getD z.1.2.2 "")) && (decide (z.1.2.2 < 20) && ((decide (z.1.1 = 5) && decide (z.1.2.1 = zsI.getD z.1.2.2 0)) || (decide (z.1.1 = 10) && decide (z.1.2.1 = zsJ.getD z.1.2.2 0))))) = true := by decide +kernel
theorem st_rez : (strL.zip zsp).map Prod.fst = strL := by decide +kernel
def znp : List Nat := [138, 144, 294, 297, 332, 375, 418, 423, 447, 656, 715, 723, 726, 788, 850, 892, 992, 1012, 1028, 1125, 1138, 1254, 1256]
set_option maxRecDepth 100000 in
theorem st_nst : (nstL.zip znp).all (fun z => wat lw_tbl z.2 (.methodLinkNest (kR z.1.1) z.1.2.1 z.1.2.2 "SevenLeague")) = true := by decide +kernel
theorem st_nez : (nstL.zip znp).map Prod.fst = nstL := by decide +kernel
theorem wl_cs : Cond.laysStatic "java/lang/String" "COMPACT_STRINGS" "Z" ∈ lw_tbl := wat_mem (k := 574) (by decide +kernel)
theorem wl_ro : Cond.laysStatic "SevenLeague$Reade\x72" "ROOM" "[I" ∈ lw_tbl := wat_mem (k := 624) (by decide +kernel)
theorem wl_fm : Cond.laysStatic "jdk/internal/util/Preconditions" "SIOOBE_FORMATTER" "Ljava/util/function/BiFunction;" ∈ lw_tbl := wat_mem (k := 590) (by decide +kernel)
theorem wl_us : Cond.laysStatic Bundle.tN "UNASSIGNED_STACK" Bundle.steD ∈ lw_tbl := wat_mem (k := 1369) (by decide +kernel)
theorem wl_ss : Cond.laysStatic Bundle.tN "SUPPRESSED_SENTINEL" Bundle.listD ∈ lw_tbl := wat_mem (k := 1371) (by decide +kernel)
theorem wi_cs : Cond.initialized "java/lang/String" ∈ lw_tbl := wat_mem (k := 118) (by decide +kernel)
theorem wi_ro : Cond.initialized "SevenLeague$Reade\x72" ∈ lw_tbl := wat_mem (k := 107) (by decide +kernel)
theorem wi_fm : Cond.initialized "jdk/internal/util/Preconditions" ∈ lw_tbl := wat_mem (k := 120) (by decide +kernel)
theorem wi_th : Cond.initialized "java/lang/Throwable" ∈ lw_tbl := wat_mem (k := 124) (by decide +kernel)
theorem wa_i : Cond.arrayClass .int ∈ lw_tbl := wat_mem (k := 169) (by decide +kernel)
theorem wa_b : Cond.arrayClass .byte ∈ lw_tbl := wat_mem (k := 168) (by decide +kernel)
theorem wa_l : Cond.arrayClass .long ∈ lw_tbl := wat_mem (k := 359) (by decide +kernel)
theorem wn_cs : Cond.eq (.static "java/lang/String" "COMPACT_STRINGS" "Z") (.int 1) ∈ nfl := wat_mem (k := 4) (by decide +kernel)
theorem wn_ra : Cond.arrayOf (.static "SevenLeague$Reade\x72" "ROOM" "[I") .int ∈ nfl := wat_mem (k := 10) (by decide +kernel)
theorem wn_rl : Cond.eq (.length (.static "SevenLeague$Reade\x72" "ROOM" "[I")) (.int 7) ∈ nfl := wat_mem (k := 11) (by decide +kernel)
theorem wn_re : ∀ j : Fin 7, wat nfl (12 + j.val) (.eq (.elem (.static "SevenLeague$Reade\x72" "ROOM" "[I") (.int (Int32.ofNat j.val))) (.int (roomL.getD j.val 0))) = true := by decide +kernel
theorem wn_fm : Cond.isRef (.static "jdk/internal/util/Preconditions" "SIOOBE_FORMATTER" "Ljava/util/function/BiFunction;") ∈ nfl := wat_mem (k := 5) (by decide +kernel)
theorem wn_us : Cond.isRef (.static Bundle.tN "UNASSIGNED_STACK" Bundle.steD) ∈ nfl := wat_mem (k := 19) (by decide +kernel)
theorem wn_ss : Cond.isRef (.static Bundle.tN "SUPPRESSED_SENTINEL" Bundle.listD) ∈ nfl := wat_mem (k := 20) (by decide +kernel)
theorem wk_0 : Cond.instantiable (kR 0) 6 ∈ lw_tbl := wat_mem (k := 446) (by decide +kernel)
theorem wk_1 : Cond.instantiable (kR 1) 15 ∈ lw_tbl := wat_mem (k := 143) (by decide +kernel)
theorem wk_2 : Cond.instantiable (kR 2) 3 ∈ lw_tbl := wat_mem (k := 331) (by decide +kernel)
theorem wk_3 : Cond.instantiable (kR 3) 2 ∈ lw_tbl := wat_mem (k := 149) (by decide +kernel)
theorem wk_4 : Cond.instantiable (kR 4) 12 ∈ lw_tbl := wat_mem (k := 374) (by decide +kernel)
theorem wk_5 : Cond.instantiable (kR 5) 14 ∈ lw_tbl := wat_mem (k := 137) (by decide +kernel)
theorem wk_6 : Cond.instantiable (kR 6) 5 ∈ lw_tbl := wat_mem (k := 337) (by decide +kernel)
theorem wk_7 : Cond.instantiable (kR 7) 5 ∈ lw_tbl := wat_mem (k := 296) (by decide +kernel)
theorem wk_8 : Cond.instantiable (kR 8) 6 ∈ lw_tbl := wat_mem (k := 417) (by decide +kernel)
theorem wk_9 : Cond.instantiable (kR 9) 11 ∈ lw_tbl := wat_mem (k := 129) (by decide +kernel)
theorem wk_10 : Cond.instantiable (kR 10) 52 ∈ lw_tbl := wat_mem (k := 1404) (by decide +kernel)
theorem st_led : ((vx_at0 (kR 9) 374 xN xNs).filter (fun w => !goodWord w)).all (fun w => w.onTables && decide (w ∈ lw_tbl)) = true := by decide +kernel
theorem st_flags : flags0.contains noTraceFlag = true := by decide +kernel
end ENTRY
