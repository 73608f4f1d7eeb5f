section LAWL
variable {x : CX} {b L k i N : Nat} {xs : Nat → Int32} {v : Int32} {σ : Sg}
theorem lw_sw : decode code 40 = .ok (.tableswitch 1946 0 60 #[260, 333, 358, 371, 384, 421, 458, 483, 496, 509, 522, 535, 548, 561, 574, 611, 648, 661, 686, 711, 736, 749, 786, 823, 860, 897, 934, 959, 996, 1021, 1046, 1071, 1096, 1121, 1134, 1159, 1184, 1221, 1246, 1259, 1284, 1297, 1310, 1323, 1336, 1349, 1458, 1483, 1508, 1586, 1652, 1701, 1738, 1763, 1776, 1801, 1814, 1827, 1852, 1908, 1933], 260) := by decide +kernel
theorem lw_body {y : Int32} (hN : 200000 ≤ N) (hl : LwC b L xs (k + 1) x) (hs : Sim σ) (hv : v = iI (i : Int)) (hi : i + 6 ≤ L) (hL : L ≤ 3072) (K : ∀ x1 s1, LwC b L xs k x1 → Sim s1 → G x1 1986 [some (.ref 92), some (.ref 0), some (.ref 66), some (.ref 85), some (.int v), none, none] [] s1) : G x 40 [some (.ref 92), some (.ref 0), some (.ref 66), some (.ref 85), some (.int v), none, none] [.int y] σ := by
  have hx := hl.1
  by_cases c0 : y = 0
  · exact g_tin hx (off := 260) (tgt := 300) (v := 0) lw_sw c0 (by decide +kernel) (by decide +kernel) (by decide +kernel) (by decide) (lw_c0 hN hl hs hv hi hL K)
  by_cases c1 : y = 1
  · exact g_tin hx (off := 333) (tgt := 373) (v := 1) lw_sw c1 (by decide +kernel) (by decide +kernel) (by decide +kernel) (by decide) (lw_c1 hN hl hs hv hi hL K)
  by_cases c2 : y = 2
  · exact g_tin hx (off := 358) (tgt := 398) (v := 2) lw_sw c2 (by decide +kernel) (by decide +kernel) (by decide +kernel) (by decide) (lw_c2 hN hl hs hv hi hL K)
  by_cases c3 : y = 3
  · exact g_tin hx (off := 371) (tgt := 411) (v := 3) lw_sw c3 (by decide +kernel) (by decide +kernel) (by decide +kernel) (by decide) (lw_c3 hN hl hs hv hi hL K)
  by_cases c4 : y = 4
  · exact g_tin hx (off := 384) (tgt := 424) (v := 4) lw_sw c4 (by decide +kernel) (by decide +kernel) (by decide +kernel) (by decide) (lw_c4 hN hl hs hv hi hL K)
  by_cases c5 : y = 5
  · exact g_tin hx (off := 421) (tgt := 461) (v := 5) lw_sw c5 (by decide +kernel) (by decide +kernel) (by decide +kernel) (by decide) (lw_c5 hN hl hs hv hi hL K)
  by_cases c6 : y = 6
  · exact g_tin hx (off := 458) (tgt := 498) (v := 6) lw_sw c6 (by decide +kernel) (by decide +kernel) (by decide +kernel) (by decide) (lw_c6 hN hl hs hv hi hL K)
  by_cases c7 : y = 7
  · exact g_tin hx (off := 483) (tgt := 523) (v := 7) lw_sw c7 (by decide +kernel) (by decide +kernel) (by decide +kernel) (by decide) (lw_c7 hN hl hs hv hi hL K)
  by_cases c8 : y = 8
  · exact g_tin hx (off := 496) (tgt := 536) (v := 8) lw_sw c8 (by decide +kernel) (by decide +kernel) (by decide +kernel) (by decide) (lw_c8 hN hl hs hv hi hL K)
  by_cases c9 : y = 9
  · exact g_tin hx (off := 509) (tgt := 549) (v := 9) lw_sw c9 (by decide +kernel) (by decide +kernel) (by decide +kernel) (by decide) (lw_c9 hN hl hs hv hi hL K)
  by_cases c10 : y = 10
  · exact g_tin hx (off := 522) (tgt := 562) (v := 10) lw_sw c10 (by decide +kernel) (by decide +kernel) (by decide +kernel) (by decide) (lw_c10 hN hl hs hv hi hL K)
  by_cases c11 : y = 11
  · exact g_tin hx (off := 535) (tgt := 575) (v := 11) lw_sw c11 (by decide +kernel) (by decide +kernel) (by decide +kernel) (by decide) (lw_c11 hN hl hs hv hi hL K)
  by_cases c12 : y = 12
  · exact g_tin hx (off := 548) (tgt := 588) (v := 12) lw_sw c12 (by decide +kernel) (by decide +kernel) (by decide +kernel) (by decide) (lw_c12 hN hl hs hv hi hL K)
  by_cases c13 : y = 13
  · exact g_tin hx (off := 561) (tgt := 601) (v := 13) lw_sw c13 (by decide +kernel) (by decide +kernel) (by decide +kernel) (by decide) (lw_c13 hN hl hs hv hi hL K)
  by_cases c14 : y = 14
  · exact g_tin hx (off := 574) (tgt := 614) (v := 14) lw_sw c14 (by decide +kernel) (by decide +kernel) (by decide +kernel) (by decide) (lw_c14 hN hl hs hv hi hL K)
  by_cases c15 : y = 15
  · exact g_tin hx (off := 611) (tgt := 651) (v := 15) lw_sw c15 (by decide +kernel) (by decide +kernel) (by decide +kernel) (by decide) (lw_c15 hN hl hs hv hi hL K)
  by_cases c16 : y = 16
  · exact g_tin hx (off := 648) (tgt := 688) (v := 16) lw_sw c16 (by decide +kernel) (by decide +kernel) (by decide +kernel) (by decide) (lw_c16 hN hl hs hv hi hL K)
  by_cases c17 : y = 17
  · exact g_tin hx (off := 661) (tgt := 701) (v := 17) lw_sw c17 (by decide +kernel) (by decide +kernel) (by decide +kernel) (by decide) (lw_c17 hN hl hs hv hi hL K)
  by_cases c18 : y = 18
  · exact g_tin hx (off := 686) (tgt := 726) (v := 18) lw_sw c18 (by decide +kernel) (by decide +kernel) (by decide +kernel) (by decide) (lw_c18 hN hl hs hv hi hL K)
  by_cases c19 : y = 19
  · exact g_tin hx (off := 711) (tgt := 751) (v := 19) lw_sw c19 (by decide +kernel) (by decide +kernel) (by decide +kernel) (by decide) (lw_c19 hN hl hs hv hi hL K)
  by_cases c20 : y = 20
  · exact g_tin hx (off := 736) (tgt := 776) (v := 20) lw_sw c20 (by decide +kernel) (by decide +kernel) (by decide +kernel) (by decide) (lw_c20 hN hl hs hv hi hL K)
  by_cases c21 : y = 21
  · exact g_tin hx (off := 749) (tgt := 789) (v := 21) lw_sw c21 (by decide +kernel) (by decide +kernel) (by decide +kernel) (by decide) (lw_c21 hN hl hs hv hi hL K)
  by_cases c22 : y = 22
  · exact g_tin hx (off := 786) (tgt := 826) (v := 22) lw_sw c22 (by decide +kernel) (by decide +kernel) (by decide +kernel) (by decide) (lw_c22 hN hl hs hv hi hL K)
  by_cases c23 : y = 23
  · exact g_tin hx (off := 823) (tgt := 863) (v := 23) lw_sw c23 (by decide +kernel) (by decide +kernel) (by decide +kernel) (by decide) (lw_c23 hN hl hs hv hi hL K)
  by_cases c24 : y = 24
  · exact g_tin hx (off := 860) (tgt := 900) (v := 24) lw_sw c24 (by decide +kernel) (by decide +kernel) (by decide +kernel) (by decide) (lw_c24 hN hl hs hv hi hL K)
  by_cases c25 : y = 25
  · exact g_tin hx (off := 897) (tgt := 937) (v := 25) lw_sw c25 (by decide +kernel) (by decide +kernel) (by decide +kernel) (by decide) (lw_c25 hN hl hs hv hi hL K)
  by_cases c26 : y = 26
  · exact g_tin hx (off := 934) (tgt := 974) (v := 26) lw_sw c26 (by decide +kernel) (by decide +kernel) (by decide +kernel) (by decide) (lw_c26 hN hl hs hv hi hL K)
  by_cases c27 : y = 27
  · exact g_tin hx (off := 959) (tgt := 999) (v := 27) lw_sw c27 (by decide +kernel) (by decide +kernel) (by decide +kernel) (by decide) (lw_c27 hN hl hs hv hi hL K)
  by_cases c28 : y = 28
  · exact g_tin hx (off := 996) (tgt := 1036) (v := 28) lw_sw c28 (by decide +kernel) (by decide +kernel) (by decide +kernel) (by decide) (lw_c28 hN hl hs hv hi hL K)
  by_cases c29 : y = 29
  · exact g_tin hx (off := 1021) (tgt := 1061) (v := 29) lw_sw c29 (by decide +kernel) (by decide +kernel) (by decide +kernel) (by decide) (lw_c29 hN hl hs hv hi hL K)
  by_cases c30 : y = 30
  · exact g_tin hx (off := 1046) (tgt := 1086) (v := 30) lw_sw c30 (by decide +kernel) (by decide +kernel) (by decide +kernel) (by decide) (lw_c30 hN hl hs hv hi hL K)
  by_cases c31 : y = 31
  · exact g_tin hx (off := 1071) (tgt := 1111) (v := 31) lw_sw c31 (by decide +kernel) (by decide +kernel) (by decide +kernel) (by decide) (lw_c31 hN hl hs hv hi hL K)
  by_cases c32 : y = 32
  · exact g_tin hx (off := 1096) (tgt := 1136) (v := 32) lw_sw c32 (by decide +kernel) (by decide +kernel) (by decide +kernel) (by decide) (lw_c32 hN hl hs hv hi hL K)
  by_cases c33 : y = 33
  · exact g_tin hx (off := 1121) (tgt := 1161) (v := 33) lw_sw c33 (by decide +kernel) (by decide +kernel) (by decide +kernel) (by decide) (lw_c33 hN hl hs hv hi hL K)
  by_cases c34 : y = 34
  · exact g_tin hx (off := 1134) (tgt := 1174) (v := 34) lw_sw c34 (by decide +kernel) (by decide +kernel) (by decide +kernel) (by decide) (lw_c34 hN hl hs hv hi hL K)
  by_cases c35 : y = 35
  · exact g_tin hx (off := 1159) (tgt := 1199) (v := 35) lw_sw c35 (by decide +kernel) (by decide +kernel) (by decide +kernel) (by decide) (lw_c35 hN hl hs hv hi hL K)
  by_cases c36 : y = 36
  · exact g_tin hx (off := 1184) (tgt := 1224) (v := 36) lw_sw c36 (by decide +kernel) (by decide +kernel) (by decide +kernel) (by decide) (lw_c36 hN hl hs hv hi hL K)
  by_cases c37 : y = 37
  · exact g_tin hx (off := 1221) (tgt := 1261) (v := 37) lw_sw c37 (by decide +kernel) (by decide +kernel) (by decide +kernel) (by decide) (lw_c37 hN hl hs hv hi hL K)
  by_cases c38 : y = 38
  · exact g_tin hx (off := 1246) (tgt := 1286) (v := 38) lw_sw c38 (by decide +kernel) (by decide +kernel) (by decide +kernel) (by decide) (lw_c38 hN hl hs hv hi hL K)
  by_cases c39 : y = 39
  · exact g_tin hx (off := 1259) (tgt := 1299) (v := 39) lw_sw c39 (by decide +kernel) (by decide +kernel) (by decide +kernel) (by decide) (lw_c39 hN hl hs hv hi hL K)
  by_cases c40 : y = 40
  · exact g_tin hx (off := 1284) (tgt := 1324) (v := 40) lw_sw c40 (by decide +kernel) (by decide +kernel) (by decide +kernel) (by decide) (lw_c40 hN hl hs hv hi hL K)
  by_cases c41 : y = 41
  · exact g_tin hx (off := 1297) (tgt := 1337) (v := 41) lw_sw c41 (by decide +kernel) (by decide +kernel) (by decide +kernel) (by decide) (lw_c41 hN hl hs hv hi hL K)
  by_cases c42 : y = 42
  · exact g_tin hx (off := 1310) (tgt := 1350) (v := 42) lw_sw c42 (by decide +kernel) (by decide +kernel) (by decide +kernel) (by decide) (lw_c42 hN hl hs hv hi hL K)
  by_cases c43 : y = 43
  · exact g_tin hx (off := 1323) (tgt := 1363) (v := 43) lw_sw c43 (by decide +kernel) (by decide +kernel) (by decide +kernel) (by decide) (lw_c43 hN hl hs hv hi hL K)
  by_cases c44 : y = 44
  · exact g_tin hx (off := 1336) (tgt := 1376) (v := 44) lw_sw c44 (by decide +kernel) (by decide +kernel) (by decide +kernel) (by decide) (lw_c44 hN hl hs hv hi hL K)
  by_cases c45 : y = 45
  · exact g_tin hx (off := 1349) (tgt := 1389) (v := 45) lw_sw c45 (by decide +kernel) (by decide +kernel) (by decide +kernel) (by decide) (lw_c45 hN hl hs hv hi hL K)
  by_cases c46 : y = 46
  · exact g_tin hx (off := 1458) (tgt := 1498) (v := 46) lw_sw c46 (by decide +kernel) (by decide +kernel) (by decide +kernel) (by decide) (lw_c46 hN hl hs hv hi hL K)
  by_cases c47 : y = 47
  · exact g_tin hx (off := 1483) (tgt := 1523) (v := 47) lw_sw c47 (by decide +kernel) (by decide +kernel) (by decide +kernel) (by decide) (lw_c47 hN hl hs hv hi hL K)
  by_cases c48 : y = 48
  · exact g_tin hx (off := 1508) (tgt := 1548) (v := 48) lw_sw c48 (by decide +kernel) (by decide +kernel) (by decide +kernel) (by decide) (lw_c48 hN hl hs hv hi hL K)
  by_cases c49 : y = 49
  · exact g_tin hx (off := 1586) (tgt := 1626) (v := 49) lw_sw c49 (by decide +kernel) (by decide +kernel) (by decide +kernel) (by decide) (lw_c49 hN hl hs hv hi hL K)
  by_cases c50 : y = 50
  · exact g_tin hx (off := 1652) (tgt := 1692) (v := 50) lw_sw c50 (by decide +kernel) (by decide +kernel) (by decide +kernel) (by decide) (lw_c50 hN hl hs hv hi hL K)
  by_cases c51 : y = 51
  · exact g_tin hx (off := 1701) (tgt := 1741) (v := 51) lw_sw c51 (by decide +kernel) (by decide +kernel) (by decide +kernel) (by decide) (lw_c51 hN hl hs hv hi hL K)
  by_cases c52 : y = 52
  · exact g_tin hx (off := 1738) (tgt := 1778) (v := 52) lw_sw c52 (by decide +kernel) (by decide +kernel) (by decide +kernel) (by decide) (lw_c52 hN hl hs hv hi hL K)
  by_cases c53 : y = 53
  · exact g_tin hx (off := 1763) (tgt := 1803) (v := 53) lw_sw c53 (by decide +kernel) (by decide +kernel) (by decide +kernel) (by decide) (lw_c53 hN hl hs hv hi hL K)
  by_cases c54 : y = 54
  · exact g_tin hx (off := 1776) (tgt := 1816) (v := 54) lw_sw c54 (by decide +kernel) (by decide +kernel) (by decide +kernel) (by decide) (lw_c54 hN hl hs hv hi hL K)
  by_cases c55 : y = 55
  · exact g_tin hx (off := 1801) (tgt := 1841) (v := 55) lw_sw c55 (by decide +kernel) (by decide +kernel) (by decide +kernel) (by decide) (lw_c55 hN hl hs hv hi hL K)
  by_cases c56 : y = 56
  · exact g_tin hx (off := 1814) (tgt := 1854) (v := 56) lw_sw c56 (by decide +kernel) (by decide +kernel) (by decide +kernel) (by decide) (lw_c56 hN hl hs hv hi hL K)
  by_cases c57 : y = 57
  · exact g_tin hx (off := 1827) (tgt := 1867) (v := 57) lw_sw c57 (by decide +kernel) (by decide +kernel) (by decide +kernel) (by decide) (lw_c57 hN hl hs hv hi hL K)
  by_cases c58 : y = 58
  · exact g_tin hx (off := 1852) (tgt := 1892) (v := 58) lw_sw c58 (by decide +kernel) (by decide +kernel) (by decide +kernel) (by decide) (lw_c58 hN hl hs hv hi hL K)
  by_cases c59 : y = 59
  · exact g_tin hx (off := 1908) (tgt := 1948) (v := 59) lw_sw c59 (by decide +kernel) (by decide +kernel) (by decide +kernel) (by decide) (lw_c59 hN hl hs hv hi hL K)
  by_cases c60 : y = 60
  · exact g_tin hx (off := 1933) (tgt := 1973) (v := 60) lw_sw c60 (by decide +kernel) (by decide +kernel) (by decide +kernel) (by decide) (lw_c60 hN hl hs hv hi hL K)
  exact g_tout hx (n := 61) (tgt := 1986) lw_sw (by decide) (sw_ne ⟨c0, c1, c2, c3, c4, c5, c6, c7, c8, c9, c10, c11, c12, c13, c14, c15, c16, c17, c18, c19, c20, c21, c22, c23, c24, c25, c26, c27, c28, c29, c30, c31, c32, c33, c34, c35, c36, c37, c38, c39, c40, c41, c42, c43, c44, c45, c46, c47, c48, c49, c50, c51, c52, c53, c54, c55, c56, c57, c58, c59, c60, trivial⟩) (by decide) (K x σ hl.dn hs)
theorem lw_loop (hN : 200000 ≤ N) (hL : L ≤ 3072) : ∀ (k i : Nat) (x : CX) (σ : Sg) (v : Int32), v = iI (i : Int) → i ≤ L + 6 → L < i + 6 * k + 6 → LwC b L xs k x → Sim σ → G x 23 [some (.ref 92), some (.ref 0), some (.ref 66), some (.ref 85), some (.int v), none, none] [] σ := by
  intro k
  induction k with
  | zero =>
    intro i x σ v hv hi hk hl hs
    have hx := hl.1
    refine g_run hx [(.iload 4, 0, 0), (.aload_n 0, 0, 0)] (pc' := 26) (lo' := [some (.ref 92), some (.ref 0), some (.ref 66), some (.ref 85), some (.int v), none, none]) (st' := [.ref 92, .int v]) (σ' := σ) (by decide +kernel) rfl rfl ?_
    refine g_slX hx hl.2.2.1 (by decide +kernel) ?_
    refine g_run hx [(.bipush 6, 6, 0), (.isub, 0, 0)] (pc' := 30) (lo' := [some (.ref 92), some (.ref 0), some (.ref 66), some (.ref 85), some (.int v), none, none]) (st' := [.int (nI L - 6), .int v]) (σ' := σ) (by decide +kernel) rfl rfl ?_
    refine g_ic_gt hx (off := 1962) (tgt := 1992) (by decide +kernel) (by decide) (fun _ => ?_) (fun c => ?_)
    · refine g_run hx [(.iconst 1, 1, 0)] (pc' := 1993) (lo' := [some (.ref 92), some (.ref 0), some (.ref 66), some (.ref 85), some (.int v), none, none]) (st' := [.int 1]) (σ' := σ) (by decide +kernel) rfl rfl ?_
      exact g_lawret hx hl.2.2.2.1 (by decide +kernel)
    · exfalso
      apply c
      rw [hv, nI_iI, show iI (L : Int) - 6 = iI ((L : Int) - 6) from iI_sub _ 6, iI_lt (by omega) (by omega) (by omega) (by omega)]
      omega
  | succ k ih =>
    intro i x σ v hv hi hk hl hs
    have hx := hl.1
    refine g_run hx [(.iload 4, 0, 0), (.aload_n 0, 0, 0)] (pc' := 26) (lo' := [some (.ref 92), some (.ref 0), some (.ref 66), some (.ref 85), some (.int v), none, none]) (st' := [.ref 92, .int v]) (σ' := σ) (by decide +kernel) rfl rfl ?_
    refine g_slX hx hl.2.2.1 (by decide +kernel) ?_
    refine g_run hx [(.bipush 6, 6, 0), (.isub, 0, 0)] (pc' := 30) (lo' := [some (.ref 92), some (.ref 0), some (.ref 66), some (.ref 85), some (.int v), none, none]) (st' := [.int (nI L - 6), .int v]) (σ' := σ) (by decide +kernel) rfl rfl ?_
    refine g_ic_gt hx (off := 1962) (tgt := 1992) (by decide +kernel) (by decide) (fun _ => ?_) (fun c => ?_)
    · refine g_run hx [(.iconst 1, 1, 0)] (pc' := 1993) (lo' := [some (.ref 92), some (.ref 0), some (.ref 66), some (.ref 85), some (.int v), none, none]) (st' := [.int 1]) (σ' := σ) (by decide +kernel) rfl rfl ?_
      exact g_lawret hx hl.2.2.2.1 (by decide +kernel)
    · have hi6 : i + 6 ≤ L := by
        rw [hv, nI_iI, show iI (L : Int) - 6 = iI ((L : Int) - 6) from iI_sub _ 6, iI_lt (by omega) (by omega) (by omega) (by omega)] at c
        omega
      refine g_run hx [(.aload_n 0, 0, 0), (.iload 4, 0, 0)] (pc' := 36) (lo' := [some (.ref 92), some (.ref 0), some (.ref 66), some (.ref 85), some (.int v), none, none]) (st' := [.int v, .ref 92]) (σ' := σ) (by decide +kernel) rfl rfl ?_
      refine g_sldX hx hl.2.2.1 (lw_in0 hv hi6 hL) (by decide +kernel) ?_
      refine g_run hx [(.bipush 63, 63, 0), (.iand, 0, 0)] (pc' := 40) (lo' := [some (.ref 92), some (.ref 0), some (.ref 66), some (.ref 85), some (.int v), none, none]) (st' := [.int (xs v.toNatClampNeg &&& 63)]) (σ' := σ) (by decide +kernel) rfl rfl ?_
      refine lw_body hN hl hs hv hi6 hL (fun x1 s1 hl1 hs1 => ?_)
      refine g_run hl1.1 [(.iinc 4 6, 6, 0)] (pc' := 1989) (lo' := [some (.ref 92), some (.ref 0), some (.ref 66), some (.ref 85), some (.int (v + 6)), none, none]) (st' := []) (σ' := s1) (by decide +kernel) rfl rfl ?_
      refine g_goto hl1.1 (off := -1966) (tgt := 23) (by decide +kernel) (by decide) ?_
      exact ih (i + 6) x1 s1 (v + 6) (by rw [hv]; exact iI_add _ 6) (by omega) (by omega) hl1 hs1
end LAWL
