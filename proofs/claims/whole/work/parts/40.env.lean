/-! ===== what the law's start gives ===== -/
def tmS (i : Nat) : Term := .string (strT.getD i ("", 0, "")).1 (strT.getD i ("", 0, "")).2.1
abbrev flN : List Cond := flatC (Jvm.Cond.and given_1 narrow_1)
theorem en_ex : ∀ i, i < 23 → Cond.exactly (tmS i) "java/lang/String" ∈ flN := by decide +kernel
theorem en_co : ∀ i, i < 23 → Cond.eq (.field (tmS i) "java/lang/String" "coder" "B") (.int 0) ∈ flN := by decide +kernel
theorem en_ar : ∀ i, i < 23 → Cond.arrayOf (.field (tmS i) "java/lang/String" "value" "[B") .byte ∈ flN := by decide +kernel
theorem en_le : ∀ i, i < 23 → Cond.eq (.length (.field (tmS i) "java/lang/String" "value" "[B")) (.int (Int32.ofNat (slen.getD i 0))) ∈ flN := by decide +kernel
theorem en_sr : ∀ i, i < 23 → Cond.stringRef (strT.getD i ("", 0, "")).1 (strT.getD i ("", 0, "")).2.1 (strT.getD i ("", 0, "")).2.2 ∈ lw_tbl := by decide +kernel
theorem en_lev : ∀ j, j < 16 → Cond.eq (.elem (.static RX7 "LEVEL" "[I") (.int (Int32.ofNat j))) (.int (levT.getD j 0)) ∈ flN := by decide +kernel
theorem en_misc : Cond.arrayOf (.static RX7 "LEVEL" "[I") .int ∈ flN ∧ Cond.eq (.length (.static RX7 "LEVEL" "[I")) (.int (Int32.ofNat 16)) ∈ flN ∧ Cond.eq (.static "java/lang/String" "COMPACT_STRINGS" "Z") (.int 1) ∈ flN ∧ Cond.isRef (.static "jdk/internal/util/Preconditions" "SIOOBE_FORMATTER" "Ljava/util/function/BiFunction;") ∈ flN := by decide +kernel
theorem en_tab : Cond.laysStatic RX7 "LEVEL" "[I" ∈ lw_tbl ∧ Cond.initialized RX7 ∈ lw_tbl ∧ Cond.laysStatic "java/lang/String" "COMPACT_STRINGS" "Z" ∈ lw_tbl ∧ Cond.initialized "java/lang/String" ∈ lw_tbl ∧ Cond.laysStatic "jdk/internal/util/Preconditions" "SIOOBE_FORMATTER" "Ljava/util/function/BiFunction;" ∈ lw_tbl ∧ Cond.initialized "jdk/internal/util/Preconditions" ∈ lw_tbl ∧ Cond.arrayOver (.object RX8) ∈ lw_tbl ∧ Cond.arrayOver (.object RX6) ∈ lw_tbl ∧ Cond.arrayOver (.object RX10) ∈ lw_tbl := by decide +kernel
theorem en_inst : ∀ ci, ci < 13 → Cond.instantiable (RF ci) (nf ci) ∈ lw_tbl := by decide +kernel
theorem el_0_0 : Cond.eq (.elem (.field (tmS 0) "java/lang/String" "value" "[B") (.int (Int32.ofNat 0))) (.int ((sbyt.getD 0 []).getD 0 0)) ∈ flN := List.mem_of_getElem? (i := 71) (by decide +kernel)
theorem el_0_1 : Cond.eq (.elem (.field (tmS 0) "java/lang/String" "value" "[B") (.int (Int32.ofNat 1))) (.int ((sbyt.getD 0 []).getD 1 0)) ∈ flN := List.mem_of_getElem? (i := 72) (by decide +kernel)
theorem el_0_2 : Cond.eq (.elem (.field (tmS 0) "java/lang/String" "value" "[B") (.int (Int32.ofNat 2))) (.int ((sbyt.getD 0 []).getD 2 0)) ∈ flN := List.mem_of_getElem? (i := 73) (by decide +kernel)
theorem el_0_3 : Cond.eq (.elem (.field (tmS 0) "java/lang/String" "value" "[B") (.int (Int32.ofNat 3))) (.int ((sbyt.getD 0 []).getD 3 0)) ∈ flN := List.mem_of_getElem? (i := 74) (by decide +kernel)
theorem el_0_4 : Cond.eq (.elem (.field (tmS 0) "java/lang/String" "value" "[B") (.int (Int32.ofNat 4))) (.int ((sbyt.getD 0 []).getD 4 0)) ∈ flN := List.mem_of_getElem? (i := 75) (by decide +kernel)
theorem el_0_5 : Cond.eq (.elem (.field (tmS 0) "java/lang/String" "value" "[B") (.int (Int32.ofNat 5))) (.int ((sbyt.getD 0 []).getD 5 0)) ∈ flN := List.mem_of_getElem? (i := 76) (by decide +kernel)
theorem el_0_6 : Cond.eq (.elem (.field (tmS 0) "java/lang/String" "value" "[B") (.int (Int32.ofNat 6))) (.int ((sbyt.getD 0 []).getD 6 0)) ∈ flN := List.mem_of_getElem? (i := 77) (by decide +kernel)
theorem el_0_7 : Cond.eq (.elem (.field (tmS 0) "java/lang/String" "value" "[B") (.int (Int32.ofNat 7))) (.int ((sbyt.getD 0 []).getD 7 0)) ∈ flN := List.mem_of_getElem? (i := 78) (by decide +kernel)
theorem el_0_8 : Cond.eq (.elem (.field (tmS 0) "java/lang/String" "value" "[B") (.int (Int32.ofNat 8))) (.int ((sbyt.getD 0 []).getD 8 0)) ∈ flN := List.mem_of_getElem? (i := 79) (by decide +kernel)
theorem el_0_9 : Cond.eq (.elem (.field (tmS 0) "java/lang/String" "value" "[B") (.int (Int32.ofNat 9))) (.int ((sbyt.getD 0 []).getD 9 0)) ∈ flN := List.mem_of_getElem? (i := 80) (by decide +kernel)
theorem el_0_10 : Cond.eq (.elem (.field (tmS 0) "java/lang/String" "value" "[B") (.int (Int32.ofNat 10))) (.int ((sbyt.getD 0 []).getD 10 0)) ∈ flN := List.mem_of_getElem? (i := 81) (by decide +kernel)
theorem el_0_11 : Cond.eq (.elem (.field (tmS 0) "java/lang/String" "value" "[B") (.int (Int32.ofNat 11))) (.int ((sbyt.getD 0 []).getD 11 0)) ∈ flN := List.mem_of_getElem? (i := 82) (by decide +kernel)
theorem el_0_12 : Cond.eq (.elem (.field (tmS 0) "java/lang/String" "value" "[B") (.int (Int32.ofNat 12))) (.int ((sbyt.getD 0 []).getD 12 0)) ∈ flN := List.mem_of_getElem? (i := 83) (by decide +kernel)
theorem el_0_13 : Cond.eq (.elem (.field (tmS 0) "java/lang/String" "value" "[B") (.int (Int32.ofNat 13))) (.int ((sbyt.getD 0 []).getD 13 0)) ∈ flN := List.mem_of_getElem? (i := 84) (by decide +kernel)
theorem el_0_14 : Cond.eq (.elem (.field (tmS 0) "java/lang/String" "value" "[B") (.int (Int32.ofNat 14))) (.int ((sbyt.getD 0 []).getD 14 0)) ∈ flN := List.mem_of_getElem? (i := 85) (by decide +kernel)
theorem el_0_15 : Cond.eq (.elem (.field (tmS 0) "java/lang/String" "value" "[B") (.int (Int32.ofNat 15))) (.int ((sbyt.getD 0 []).getD 15 0)) ∈ flN := List.mem_of_getElem? (i := 86) (by decide +kernel)
theorem el_0_16 : Cond.eq (.elem (.field (tmS 0) "java/lang/String" "value" "[B") (.int (Int32.ofNat 16))) (.int ((sbyt.getD 0 []).getD 16 0)) ∈ flN := List.mem_of_getElem? (i := 87) (by decide +kernel)
theorem el_0_17 : Cond.eq (.elem (.field (tmS 0) "java/lang/String" "value" "[B") (.int (Int32.ofNat 17))) (.int ((sbyt.getD 0 []).getD 17 0)) ∈ flN := List.mem_of_getElem? (i := 88) (by decide +kernel)
theorem el_0_18 : Cond.eq (.elem (.field (tmS 0) "java/lang/String" "value" "[B") (.int (Int32.ofNat 18))) (.int ((sbyt.getD 0 []).getD 18 0)) ∈ flN := List.mem_of_getElem? (i := 89) (by decide +kernel)
theorem el_0_19 : Cond.eq (.elem (.field (tmS 0) "java/lang/String" "value" "[B") (.int (Int32.ofNat 19))) (.int ((sbyt.getD 0 []).getD 19 0)) ∈ flN := List.mem_of_getElem? (i := 90) (by decide +kernel)
theorem el_0_20 : Cond.eq (.elem (.field (tmS 0) "java/lang/String" "value" "[B") (.int (Int32.ofNat 20))) (.int ((sbyt.getD 0 []).getD 20 0)) ∈ flN := List.mem_of_getElem? (i := 91) (by decide +kernel)
theorem el_0_21 : Cond.eq (.elem (.field (tmS 0) "java/lang/String" "value" "[B") (.int (Int32.ofNat 21))) (.int ((sbyt.getD 0 []).getD 21 0)) ∈ flN := List.mem_of_getElem? (i := 92) (by decide +kernel)
theorem el_0_22 : Cond.eq (.elem (.field (tmS 0) "java/lang/String" "value" "[B") (.int (Int32.ofNat 22))) (.int ((sbyt.getD 0 []).getD 22 0)) ∈ flN := List.mem_of_getElem? (i := 93) (by decide +kernel)
theorem el_0_23 : Cond.eq (.elem (.field (tmS 0) "java/lang/String" "value" "[B") (.int (Int32.ofNat 23))) (.int ((sbyt.getD 0 []).getD 23 0)) ∈ flN := List.mem_of_getElem? (i := 94) (by decide +kernel)
theorem el_0_24 : Cond.eq (.elem (.field (tmS 0) "java/lang/String" "value" "[B") (.int (Int32.ofNat 24))) (.int ((sbyt.getD 0 []).getD 24 0)) ∈ flN := List.mem_of_getElem? (i := 95) (by decide +kernel)
theorem el_0_25 : Cond.eq (.elem (.field (tmS 0) "java/lang/String" "value" "[B") (.int (Int32.ofNat 25))) (.int ((sbyt.getD 0 []).getD 25 0)) ∈ flN := List.mem_of_getElem? (i := 96) (by decide +kernel)
theorem el_0_26 : Cond.eq (.elem (.field (tmS 0) "java/lang/String" "value" "[B") (.int (Int32.ofNat 26))) (.int ((sbyt.getD 0 []).getD 26 0)) ∈ flN := List.mem_of_getElem? (i := 97) (by decide +kernel)
theorem el_0_27 : Cond.eq (.elem (.field (tmS 0) "java/lang/String" "value" "[B") (.int (Int32.ofNat 27))) (.int ((sbyt.getD 0 []).getD 27 0)) ∈ flN := List.mem_of_getElem? (i := 98) (by decide +kernel)
theorem el_0_28 : Cond.eq (.elem (.field (tmS 0) "java/lang/String" "value" "[B") (.int (Int32.ofNat 28))) (.int ((sbyt.getD 0 []).getD 28 0)) ∈ flN := List.mem_of_getElem? (i := 99) (by decide +kernel)
theorem el_0_29 : Cond.eq (.elem (.field (tmS 0) "java/lang/String" "value" "[B") (.int (Int32.ofNat 29))) (.int ((sbyt.getD 0 []).getD 29 0)) ∈ flN := List.mem_of_getElem? (i := 100) (by decide +kernel)
theorem el_0_30 : Cond.eq (.elem (.field (tmS 0) "java/lang/String" "value" "[B") (.int (Int32.ofNat 30))) (.int ((sbyt.getD 0 []).getD 30 0)) ∈ flN := List.mem_of_getElem? (i := 101) (by decide +kernel)
theorem el_0_31 : Cond.eq (.elem (.field (tmS 0) "java/lang/String" "value" "[B") (.int (Int32.ofNat 31))) (.int ((sbyt.getD 0 []).getD 31 0)) ∈ flN := List.mem_of_getElem? (i := 102) (by decide +kernel)
theorem el_0_32 : Cond.eq (.elem (.field (tmS 0) "java/lang/String" "value" "[B") (.int (Int32.ofNat 32))) (.int ((sbyt.getD 0 []).getD 32 0)) ∈ flN := List.mem_of_getElem? (i := 103) (by decide +kernel)
theorem el_0 : ∀ j, j < slen.getD 0 0 → Cond.eq (.elem (.field (tmS 0) "java/lang/String" "value" "[B") (.int (Int32.ofNat j))) (.int ((sbyt.getD 0 []).getD j 0)) ∈ flN := fun j hj => match j, hj with
  | 0, _ => el_0_0
  | 1, _ => el_0_1
  | 2, _ => el_0_2
  | 3, _ => el_0_3
  | 4, _ => el_0_4
  | 5, _ => el_0_5
  | 6, _ => el_0_6
  | 7, _ => el_0_7
  | 8, _ => el_0_8
  | 9, _ => el_0_9
  | 10, _ => el_0_10
  | 11, _ => el_0_11
  | 12, _ => el_0_12
  | 13, _ => el_0_13
  | 14, _ => el_0_14
  | 15, _ => el_0_15
  | 16, _ => el_0_16
  | 17, _ => el_0_17
  | 18, _ => el_0_18
  | 19, _ => el_0_19
  | 20, _ => el_0_20
  | 21, _ => el_0_21
  | 22, _ => el_0_22
  | 23, _ => el_0_23
  | 24, _ => el_0_24
  | 25, _ => el_0_25
  | 26, _ => el_0_26
  | 27, _ => el_0_27
  | 28, _ => el_0_28
  | 29, _ => el_0_29
  | 30, _ => el_0_30
  | 31, _ => el_0_31
  | 32, _ => el_0_32
  | k + 33, h => absurd h (by show ¬ k + 33 < 33; omega)
theorem el_1_0 : Cond.eq (.elem (.field (tmS 1) "java/lang/String" "value" "[B") (.int (Int32.ofNat 0))) (.int ((sbyt.getD 1 []).getD 0 0)) ∈ flN := List.mem_of_getElem? (i := 108) (by decide +kernel)
theorem el_1_1 : Cond.eq (.elem (.field (tmS 1) "java/lang/String" "value" "[B") (.int (Int32.ofNat 1))) (.int ((sbyt.getD 1 []).getD 1 0)) ∈ flN := List.mem_of_getElem? (i := 109) (by decide +kernel)
theorem el_1_2 : Cond.eq (.elem (.field (tmS 1) "java/lang/String" "value" "[B") (.int (Int32.ofNat 2))) (.int ((sbyt.getD 1 []).getD 2 0)) ∈ flN := List.mem_of_getElem? (i := 110) (by decide +kernel)
theorem el_1_3 : Cond.eq (.elem (.field (tmS 1) "java/lang/String" "value" "[B") (.int (Int32.ofNat 3))) (.int ((sbyt.getD 1 []).getD 3 0)) ∈ flN := List.mem_of_getElem? (i := 111) (by decide +kernel)
theorem el_1_4 : Cond.eq (.elem (.field (tmS 1) "java/lang/String" "value" "[B") (.int (Int32.ofNat 4))) (.int ((sbyt.getD 1 []).getD 4 0)) ∈ flN := List.mem_of_getElem? (i := 112) (by decide +kernel)
theorem el_1_5 : Cond.eq (.elem (.field (tmS 1) "java/lang/String" "value" "[B") (.int (Int32.ofNat 5))) (.int ((sbyt.getD 1 []).getD 5 0)) ∈ flN := List.mem_of_getElem? (i := 113) (by decide +kernel)
theorem el_1_6 : Cond.eq (.elem (.field (tmS 1) "java/lang/String" "value" "[B") (.int (Int32.ofNat 6))) (.int ((sbyt.getD 1 []).getD 6 0)) ∈ flN := List.mem_of_getElem? (i := 114) (by decide +kernel)
theorem el_1_7 : Cond.eq (.elem (.field (tmS 1) "java/lang/String" "value" "[B") (.int (Int32.ofNat 7))) (.int ((sbyt.getD 1 []).getD 7 0)) ∈ flN := List.mem_of_getElem? (i := 115) (by decide +kernel)
theorem el_1_8 : Cond.eq (.elem (.field (tmS 1) "java/lang/String" "value" "[B") (.int (Int32.ofNat 8))) (.int ((sbyt.getD 1 []).getD 8 0)) ∈ flN := List.mem_of_getElem? (i := 116) (by decide +kernel)
theorem el_1_9 : Cond.eq (.elem (.field (tmS 1) "java/lang/String" "value" "[B") (.int (Int32.ofNat 9))) (.int ((sbyt.getD 1 []).getD 9 0)) ∈ flN := List.mem_of_getElem? (i := 117) (by decide +kernel)
theorem el_1_10 : Cond.eq (.elem (.field (tmS 1) "java/lang/String" "value" "[B") (.int (Int32.ofNat 10))) (.int ((sbyt.getD 1 []).getD 10 0)) ∈ flN := List.mem_of_getElem? (i := 118) (by decide +kernel)
theorem el_1_11 : Cond.eq (.elem (.field (tmS 1) "java/lang/String" "value" "[B") (.int (Int32.ofNat 11))) (.int ((sbyt.getD 1 []).getD 11 0)) ∈ flN := List.mem_of_getElem? (i := 119) (by decide +kernel)
theorem el_1_12 : Cond.eq (.elem (.field (tmS 1) "java/lang/String" "value" "[B") (.int (Int32.ofNat 12))) (.int ((sbyt.getD 1 []).getD 12 0)) ∈ flN := List.mem_of_getElem? (i := 120) (by decide +kernel)
theorem el_1_13 : Cond.eq (.elem (.field (tmS 1) "java/lang/String" "value" "[B") (.int (Int32.ofNat 13))) (.int ((sbyt.getD 1 []).getD 13 0)) ∈ flN := List.mem_of_getElem? (i := 121) (by decide +kernel)
theorem el_1_14 : Cond.eq (.elem (.field (tmS 1) "java/lang/String" "value" "[B") (.int (Int32.ofNat 14))) (.int ((sbyt.getD 1 []).getD 14 0)) ∈ flN := List.mem_of_getElem? (i := 122) (by decide +kernel)
theorem el_1_15 : Cond.eq (.elem (.field (tmS 1) "java/lang/String" "value" "[B") (.int (Int32.ofNat 15))) (.int ((sbyt.getD 1 []).getD 15 0)) ∈ flN := List.mem_of_getElem? (i := 123) (by decide +kernel)
theorem el_1_16 : Cond.eq (.elem (.field (tmS 1) "java/lang/String" "value" "[B") (.int (Int32.ofNat 16))) (.int ((sbyt.getD 1 []).getD 16 0)) ∈ flN := List.mem_of_getElem? (i := 124) (by decide +kernel)
theorem el_1_17 : Cond.eq (.elem (.field (tmS 1) "java/lang/String" "value" "[B") (.int (Int32.ofNat 17))) (.int ((sbyt.getD 1 []).getD 17 0)) ∈ flN := List.mem_of_getElem? (i := 125) (by decide +kernel)
theorem el_1 : ∀ j, j < slen.getD 1 0 → Cond.eq (.elem (.field (tmS 1) "java/lang/String" "value" "[B") (.int (Int32.ofNat j))) (.int ((sbyt.getD 1 []).getD j 0)) ∈ flN := fun j hj => match j, hj with
  | 0, _ => el_1_0
  | 1, _ => el_1_1
  | 2, _ => el_1_2
  | 3, _ => el_1_3
  | 4, _ => el_1_4
  | 5, _ => el_1_5
  | 6, _ => el_1_6
  | 7, _ => el_1_7
  | 8, _ => el_1_8
  | 9, _ => el_1_9
  | 10, _ => el_1_10
  | 11, _ => el_1_11
  | 12, _ => el_1_12
  | 13, _ => el_1_13
  | 14, _ => el_1_14
  | 15, _ => el_1_15
  | 16, _ => el_1_16
  | 17, _ => el_1_17
  | k + 18, h => absurd h (by show ¬ k + 18 < 18; omega)
theorem el_2_0 : Cond.eq (.elem (.field (tmS 2) "java/lang/String" "value" "[B") (.int (Int32.ofNat 0))) (.int ((sbyt.getD 2 []).getD 0 0)) ∈ flN := List.mem_of_getElem? (i := 131) (by decide +kernel)
theorem el_2_1 : Cond.eq (.elem (.field (tmS 2) "java/lang/String" "value" "[B") (.int (Int32.ofNat 1))) (.int ((sbyt.getD 2 []).getD 1 0)) ∈ flN := List.mem_of_getElem? (i := 132) (by decide +kernel)
theorem el_2_2 : Cond.eq (.elem (.field (tmS 2) "java/lang/String" "value" "[B") (.int (Int32.ofNat 2))) (.int ((sbyt.getD 2 []).getD 2 0)) ∈ flN := List.mem_of_getElem? (i := 133) (by decide +kernel)
theorem el_2_3 : Cond.eq (.elem (.field (tmS 2) "java/lang/String" "value" "[B") (.int (Int32.ofNat 3))) (.int ((sbyt.getD 2 []).getD 3 0)) ∈ flN := List.mem_of_getElem? (i := 134) (by decide +kernel)
theorem el_2_4 : Cond.eq (.elem (.field (tmS 2) "java/lang/String" "value" "[B") (.int (Int32.ofNat 4))) (.int ((sbyt.getD 2 []).getD 4 0)) ∈ flN := List.mem_of_getElem? (i := 135) (by decide +kernel)
theorem el_2_5 : Cond.eq (.elem (.field (tmS 2) "java/lang/String" "value" "[B") (.int (Int32.ofNat 5))) (.int ((sbyt.getD 2 []).getD 5 0)) ∈ flN := List.mem_of_getElem? (i := 136) (by decide +kernel)
theorem el_2_6 : Cond.eq (.elem (.field (tmS 2) "java/lang/String" "value" "[B") (.int (Int32.ofNat 6))) (.int ((sbyt.getD 2 []).getD 6 0)) ∈ flN := List.mem_of_getElem? (i := 137) (by decide +kernel)
theorem el_2_7 : Cond.eq (.elem (.field (tmS 2) "java/lang/String" "value" "[B") (.int (Int32.ofNat 7))) (.int ((sbyt.getD 2 []).getD 7 0)) ∈ flN := List.mem_of_getElem? (i := 138) (by decide +kernel)
theorem el_2_8 : Cond.eq (.elem (.field (tmS 2) "java/lang/String" "value" "[B") (.int (Int32.ofNat 8))) (.int ((sbyt.getD 2 []).getD 8 0)) ∈ flN := List.mem_of_getElem? (i := 139) (by decide +kernel)
theorem el_2_9 : Cond.eq (.elem (.field (tmS 2) "java/lang/String" "value" "[B") (.int (Int32.ofNat 9))) (.int ((sbyt.getD 2 []).getD 9 0)) ∈ flN := List.mem_of_getElem? (i := 140) (by decide +kernel)
theorem el_2_10 : Cond.eq (.elem (.field (tmS 2) "java/lang/String" "value" "[B") (.int (Int32.ofNat 10))) (.int ((sbyt.getD 2 []).getD 10 0)) ∈ flN := List.mem_of_getElem? (i := 141) (by decide +kernel)
theorem el_2_11 : Cond.eq (.elem (.field (tmS 2) "java/lang/String" "value" "[B") (.int (Int32.ofNat 11))) (.int ((sbyt.getD 2 []).getD 11 0)) ∈ flN := List.mem_of_getElem? (i := 142) (by decide +kernel)
theorem el_2_12 : Cond.eq (.elem (.field (tmS 2) "java/lang/String" "value" "[B") (.int (Int32.ofNat 12))) (.int ((sbyt.getD 2 []).getD 12 0)) ∈ flN := List.mem_of_getElem? (i := 143) (by decide +kernel)
theorem el_2_13 : Cond.eq (.elem (.field (tmS 2) "java/lang/String" "value" "[B") (.int (Int32.ofNat 13))) (.int ((sbyt.getD 2 []).getD 13 0)) ∈ flN := List.mem_of_getElem? (i := 144) (by decide +kernel)
theorem el_2_14 : Cond.eq (.elem (.field (tmS 2) "java/lang/String" "value" "[B") (.int (Int32.ofNat 14))) (.int ((sbyt.getD 2 []).getD 14 0)) ∈ flN := List.mem_of_getElem? (i := 145) (by decide +kernel)
theorem el_2_15 : Cond.eq (.elem (.field (tmS 2) "java/lang/String" "value" "[B") (.int (Int32.ofNat 15))) (.int ((sbyt.getD 2 []).getD 15 0)) ∈ flN := List.mem_of_getElem? (i := 146) (by decide +kernel)
theorem el_2_16 : Cond.eq (.elem (.field (tmS 2) "java/lang/String" "value" "[B") (.int (Int32.ofNat 16))) (.int ((sbyt.getD 2 []).getD 16 0)) ∈ flN := List.mem_of_getElem? (i := 147) (by decide +kernel)
theorem el_2_17 : Cond.eq (.elem (.field (tmS 2) "java/lang/String" "value" "[B") (.int (Int32.ofNat 17))) (.int ((sbyt.getD 2 []).getD 17 0)) ∈ flN := List.mem_of_getElem? (i := 148) (by decide +kernel)
theorem el_2_18 : Cond.eq (.elem (.field (tmS 2) "java/lang/String" "value" "[B") (.int (Int32.ofNat 18))) (.int ((sbyt.getD 2 []).getD 18 0)) ∈ flN := List.mem_of_getElem? (i := 149) (by decide +kernel)
theorem el_2_19 : Cond.eq (.elem (.field (tmS 2) "java/lang/String" "value" "[B") (.int (Int32.ofNat 19))) (.int ((sbyt.getD 2 []).getD 19 0)) ∈ flN := List.mem_of_getElem? (i := 150) (by decide +kernel)
theorem el_2_20 : Cond.eq (.elem (.field (tmS 2) "java/lang/String" "value" "[B") (.int (Int32.ofNat 20))) (.int ((sbyt.getD 2 []).getD 20 0)) ∈ flN := List.mem_of_getElem? (i := 151) (by decide +kernel)
theorem el_2_21 : Cond.eq (.elem (.field (tmS 2) "java/lang/String" "value" "[B") (.int (Int32.ofNat 21))) (.int ((sbyt.getD 2 []).getD 21 0)) ∈ flN := List.mem_of_getElem? (i := 152) (by decide +kernel)
theorem el_2_22 : Cond.eq (.elem (.field (tmS 2) "java/lang/String" "value" "[B") (.int (Int32.ofNat 22))) (.int ((sbyt.getD 2 []).getD 22 0)) ∈ flN := List.mem_of_getElem? (i := 153) (by decide +kernel)
theorem el_2_23 : Cond.eq (.elem (.field (tmS 2) "java/lang/String" "value" "[B") (.int (Int32.ofNat 23))) (.int ((sbyt.getD 2 []).getD 23 0)) ∈ flN := List.mem_of_getElem? (i := 154) (by decide +kernel)
theorem el_2_24 : Cond.eq (.elem (.field (tmS 2) "java/lang/String" "value" "[B") (.int (Int32.ofNat 24))) (.int ((sbyt.getD 2 []).getD 24 0)) ∈ flN := List.mem_of_getElem? (i := 155) (by decide +kernel)
theorem el_2_25 : Cond.eq (.elem (.field (tmS 2) "java/lang/String" "value" "[B") (.int (Int32.ofNat 25))) (.int ((sbyt.getD 2 []).getD 25 0)) ∈ flN := List.mem_of_getElem? (i := 156) (by decide +kernel)
theorem el_2_26 : Cond.eq (.elem (.field (tmS 2) "java/lang/String" "value" "[B") (.int (Int32.ofNat 26))) (.int ((sbyt.getD 2 []).getD 26 0)) ∈ flN := List.mem_of_getElem? (i := 157) (by decide +kernel)
theorem el_2_27 : Cond.eq (.elem (.field (tmS 2) "java/lang/String" "value" "[B") (.int (Int32.ofNat 27))) (.int ((sbyt.getD 2 []).getD 27 0)) ∈ flN := List.mem_of_getElem? (i := 158) (by decide +kernel)
theorem el_2_28 : Cond.eq (.elem (.field (tmS 2) "java/lang/String" "value" "[B") (.int (Int32.ofNat 28))) (.int ((sbyt.getD 2 []).getD 28 0)) ∈ flN := List.mem_of_getElem? (i := 159) (by decide +kernel)
theorem el_2_29 : Cond.eq (.elem (.field (tmS 2) "java/lang/String" "value" "[B") (.int (Int32.ofNat 29))) (.int ((sbyt.getD 2 []).getD 29 0)) ∈ flN := List.mem_of_getElem? (i := 160) (by decide +kernel)
theorem el_2_30 : Cond.eq (.elem (.field (tmS 2) "java/lang/String" "value" "[B") (.int (Int32.ofNat 30))) (.int ((sbyt.getD 2 []).getD 30 0)) ∈ flN := List.mem_of_getElem? (i := 161) (by decide +kernel)
theorem el_2_31 : Cond.eq (.elem (.field (tmS 2) "java/lang/String" "value" "[B") (.int (Int32.ofNat 31))) (.int ((sbyt.getD 2 []).getD 31 0)) ∈ flN := List.mem_of_getElem? (i := 162) (by decide +kernel)
theorem el_2_32 : Cond.eq (.elem (.field (tmS 2) "java/lang/String" "value" "[B") (.int (Int32.ofNat 32))) (.int ((sbyt.getD 2 []).getD 32 0)) ∈ flN := List.mem_of_getElem? (i := 163) (by decide +kernel)
theorem el_2_33 : Cond.eq (.elem (.field (tmS 2) "java/lang/String" "value" "[B") (.int (Int32.ofNat 33))) (.int ((sbyt.getD 2 []).getD 33 0)) ∈ flN := List.mem_of_getElem? (i := 164) (by decide +kernel)
theorem el_2_34 : Cond.eq (.elem (.field (tmS 2) "java/lang/String" "value" "[B") (.int (Int32.ofNat 34))) (.int ((sbyt.getD 2 []).getD 34 0)) ∈ flN := List.mem_of_getElem? (i := 165) (by decide +kernel)
theorem el_2_35 : Cond.eq (.elem (.field (tmS 2) "java/lang/String" "value" "[B") (.int (Int32.ofNat 35))) (.int ((sbyt.getD 2 []).getD 35 0)) ∈ flN := List.mem_of_getElem? (i := 166) (by decide +kernel)
theorem el_2_36 : Cond.eq (.elem (.field (tmS 2) "java/lang/String" "value" "[B") (.int (Int32.ofNat 36))) (.int ((sbyt.getD 2 []).getD 36 0)) ∈ flN := List.mem_of_getElem? (i := 167) (by decide +kernel)
theorem el_2_37 : Cond.eq (.elem (.field (tmS 2) "java/lang/String" "value" "[B") (.int (Int32.ofNat 37))) (.int ((sbyt.getD 2 []).getD 37 0)) ∈ flN := List.mem_of_getElem? (i := 168) (by decide +kernel)
theorem el_2_38 : Cond.eq (.elem (.field (tmS 2) "java/lang/String" "value" "[B") (.int (Int32.ofNat 38))) (.int ((sbyt.getD 2 []).getD 38 0)) ∈ flN := List.mem_of_getElem? (i := 169) (by decide +kernel)
theorem el_2_39 : Cond.eq (.elem (.field (tmS 2) "java/lang/String" "value" "[B") (.int (Int32.ofNat 39))) (.int ((sbyt.getD 2 []).getD 39 0)) ∈ flN := List.mem_of_getElem? (i := 170) (by decide +kernel)
theorem el_2_40 : Cond.eq (.elem (.field (tmS 2) "java/lang/String" "value" "[B") (.int (Int32.ofNat 40))) (.int ((sbyt.getD 2 []).getD 40 0)) ∈ flN := List.mem_of_getElem? (i := 171) (by decide +kernel)
theorem el_2_41 : Cond.eq (.elem (.field (tmS 2) "java/lang/String" "value" "[B") (.int (Int32.ofNat 41))) (.int ((sbyt.getD 2 []).getD 41 0)) ∈ flN := List.mem_of_getElem? (i := 172) (by decide +kernel)
theorem el_2_42 : Cond.eq (.elem (.field (tmS 2) "java/lang/String" "value" "[B") (.int (Int32.ofNat 42))) (.int ((sbyt.getD 2 []).getD 42 0)) ∈ flN := List.mem_of_getElem? (i := 173) (by decide +kernel)
theorem el_2_43 : Cond.eq (.elem (.field (tmS 2) "java/lang/String" "value" "[B") (.int (Int32.ofNat 43))) (.int ((sbyt.getD 2 []).getD 43 0)) ∈ flN := List.mem_of_getElem? (i := 174) (by decide +kernel)
theorem el_2_44 : Cond.eq (.elem (.field (tmS 2) "java/lang/String" "value" "[B") (.int (Int32.ofNat 44))) (.int ((sbyt.getD 2 []).getD 44 0)) ∈ flN := List.mem_of_getElem? (i := 175) (by decide +kernel)
theorem el_2_45 : Cond.eq (.elem (.field (tmS 2) "java/lang/String" "value" "[B") (.int (Int32.ofNat 45))) (.int ((sbyt.getD 2 []).getD 45 0)) ∈ flN := List.mem_of_getElem? (i := 176) (by decide +kernel)
theorem el_2_46 : Cond.eq (.elem (.field (tmS 2) "java/lang/String" "value" "[B") (.int (Int32.ofNat 46))) (.int ((sbyt.getD 2 []).getD 46 0)) ∈ flN := List.mem_of_getElem? (i := 177) (by decide +kernel)
theorem el_2_47 : Cond.eq (.elem (.field (tmS 2) "java/lang/String" "value" "[B") (.int (Int32.ofNat 47))) (.int ((sbyt.getD 2 []).getD 47 0)) ∈ flN := List.mem_of_getElem? (i := 178) (by decide +kernel)
theorem el_2_48 : Cond.eq (.elem (.field (tmS 2) "java/lang/String" "value" "[B") (.int (Int32.ofNat 48))) (.int ((sbyt.getD 2 []).getD 48 0)) ∈ flN := List.mem_of_getElem? (i := 179) (by decide +kernel)
theorem el_2_49 : Cond.eq (.elem (.field (tmS 2) "java/lang/String" "value" "[B") (.int (Int32.ofNat 49))) (.int ((sbyt.getD 2 []).getD 49 0)) ∈ flN := List.mem_of_getElem? (i := 180) (by decide +kernel)
theorem el_2_50 : Cond.eq (.elem (.field (tmS 2) "java/lang/String" "value" "[B") (.int (Int32.ofNat 50))) (.int ((sbyt.getD 2 []).getD 50 0)) ∈ flN := List.mem_of_getElem? (i := 181) (by decide +kernel)
theorem el_2_51 : Cond.eq (.elem (.field (tmS 2) "java/lang/String" "value" "[B") (.int (Int32.ofNat 51))) (.int ((sbyt.getD 2 []).getD 51 0)) ∈ flN := List.mem_of_getElem? (i := 182) (by decide +kernel)
theorem el_2_52 : Cond.eq (.elem (.field (tmS 2) "java/lang/String" "value" "[B") (.int (Int32.ofNat 52))) (.int ((sbyt.getD 2 []).getD 52 0)) ∈ flN := List.mem_of_getElem? (i := 183) (by decide +kernel)
theorem el_2_53 : Cond.eq (.elem (.field (tmS 2) "java/lang/String" "value" "[B") (.int (Int32.ofNat 53))) (.int ((sbyt.getD 2 []).getD 53 0)) ∈ flN := List.mem_of_getElem? (i := 184) (by decide +kernel)
theorem el_2_54 : Cond.eq (.elem (.field (tmS 2) "java/lang/String" "value" "[B") (.int (Int32.ofNat 54))) (.int ((sbyt.getD 2 []).getD 54 0)) ∈ flN := List.mem_of_getElem? (i := 185) (by decide +kernel)
theorem el_2_55 : Cond.eq (.elem (.field (tmS 2) "java/lang/String" "value" "[B") (.int (Int32.ofNat 55))) (.int ((sbyt.getD 2 []).getD 55 0)) ∈ flN := List.mem_of_getElem? (i := 186) (by decide +kernel)
theorem el_2_56 : Cond.eq (.elem (.field (tmS 2) "java/lang/String" "value" "[B") (.int (Int32.ofNat 56))) (.int ((sbyt.getD 2 []).getD 56 0)) ∈ flN := List.mem_of_getElem? (i := 187) (by decide +kernel)
theorem el_2_57 : Cond.eq (.elem (.field (tmS 2) "java/lang/String" "value" "[B") (.int (Int32.ofNat 57))) (.int ((sbyt.getD 2 []).getD 57 0)) ∈ flN := List.mem_of_getElem? (i := 188) (by decide +kernel)
theorem el_2_58 : Cond.eq (.elem (.field (tmS 2) "java/lang/String" "value" "[B") (.int (Int32.ofNat 58))) (.int ((sbyt.getD 2 []).getD 58 0)) ∈ flN := List.mem_of_getElem? (i := 189) (by decide +kernel)
theorem el_2_59 : Cond.eq (.elem (.field (tmS 2) "java/lang/String" "value" "[B") (.int (Int32.ofNat 59))) (.int ((sbyt.getD 2 []).getD 59 0)) ∈ flN := List.mem_of_getElem? (i := 190) (by decide +kernel)
theorem el_2_60 : Cond.eq (.elem (.field (tmS 2) "java/lang/String" "value" "[B") (.int (Int32.ofNat 60))) (.int ((sbyt.getD 2 []).getD 60 0)) ∈ flN := List.mem_of_getElem? (i := 191) (by decide +kernel)
theorem el_2_61 : Cond.eq (.elem (.field (tmS 2) "java/lang/String" "value" "[B") (.int (Int32.ofNat 61))) (.int ((sbyt.getD 2 []).getD 61 0)) ∈ flN := List.mem_of_getElem? (i := 192) (by decide +kernel)
theorem el_2_62 : Cond.eq (.elem (.field (tmS 2) "java/lang/String" "value" "[B") (.int (Int32.ofNat 62))) (.int ((sbyt.getD 2 []).getD 62 0)) ∈ flN := List.mem_of_getElem? (i := 193) (by decide +kernel)
theorem el_2_63 : Cond.eq (.elem (.field (tmS 2) "java/lang/String" "value" "[B") (.int (Int32.ofNat 63))) (.int ((sbyt.getD 2 []).getD 63 0)) ∈ flN := List.mem_of_getElem? (i := 194) (by decide +kernel)
theorem el_2_64 : Cond.eq (.elem (.field (tmS 2) "java/lang/String" "value" "[B") (.int (Int32.ofNat 64))) (.int ((sbyt.getD 2 []).getD 64 0)) ∈ flN := List.mem_of_getElem? (i := 195) (by decide +kernel)
theorem el_2_65 : Cond.eq (.elem (.field (tmS 2) "java/lang/String" "value" "[B") (.int (Int32.ofNat 65))) (.int ((sbyt.getD 2 []).getD 65 0)) ∈ flN := List.mem_of_getElem? (i := 196) (by decide +kernel)
theorem el_2_66 : Cond.eq (.elem (.field (tmS 2) "java/lang/String" "value" "[B") (.int (Int32.ofNat 66))) (.int ((sbyt.getD 2 []).getD 66 0)) ∈ flN := List.mem_of_getElem? (i := 197) (by decide +kernel)
theorem el_2_67 : Cond.eq (.elem (.field (tmS 2) "java/lang/String" "value" "[B") (.int (Int32.ofNat 67))) (.int ((sbyt.getD 2 []).getD 67 0)) ∈ flN := List.mem_of_getElem? (i := 198) (by decide +kernel)
theorem el_2_68 : Cond.eq (.elem (.field (tmS 2) "java/lang/String" "value" "[B") (.int (Int32.ofNat 68))) (.int ((sbyt.getD 2 []).getD 68 0)) ∈ flN := List.mem_of_getElem? (i := 199) (by decide +kernel)
theorem el_2_69 : Cond.eq (.elem (.field (tmS 2) "java/lang/String" "value" "[B") (.int (Int32.ofNat 69))) (.int ((sbyt.getD 2 []).getD 69 0)) ∈ flN := List.mem_of_getElem? (i := 200) (by decide +kernel)
theorem el_2_70 : Cond.eq (.elem (.field (tmS 2) "java/lang/String" "value" "[B") (.int (Int32.ofNat 70))) (.int ((sbyt.getD 2 []).getD 70 0)) ∈ flN := List.mem_of_getElem? (i := 201) (by decide +kernel)
theorem el_2_71 : Cond.eq (.elem (.field (tmS 2) "java/lang/String" "value" "[B") (.int (Int32.ofNat 71))) (.int ((sbyt.getD 2 []).getD 71 0)) ∈ flN := List.mem_of_getElem? (i := 202) (by decide +kernel)
theorem el_2_72 : Cond.eq (.elem (.field (tmS 2) "java/lang/String" "value" "[B") (.int (Int32.ofNat 72))) (.int ((sbyt.getD 2 []).getD 72 0)) ∈ flN := List.mem_of_getElem? (i := 203) (by decide +kernel)
theorem el_2 : ∀ j, j < slen.getD 2 0 → Cond.eq (.elem (.field (tmS 2) "java/lang/String" "value" "[B") (.int (Int32.ofNat j))) (.int ((sbyt.getD 2 []).getD j 0)) ∈ flN := fun j hj => match j, hj with
  | 0, _ => el_2_0
  | 1, _ => el_2_1
  | 2, _ => el_2_2
  | 3, _ => el_2_3
  | 4, _ => el_2_4
  | 5, _ => el_2_5
  | 6, _ => el_2_6
  | 7, _ => el_2_7
  | 8, _ => el_2_8
  | 9, _ => el_2_9
  | 10, _ => el_2_10
  | 11, _ => el_2_11
  | 12, _ => el_2_12
  | 13, _ => el_2_13
  | 14, _ => el_2_14
  | 15, _ => el_2_15
  | 16, _ => el_2_16
  | 17, _ => el_2_17
  | 18, _ => el_2_18
  | 19, _ => el_2_19
  | 20, _ => el_2_20
  | 21, _ => el_2_21
  | 22, _ => el_2_22
  | 23, _ => el_2_23
  | 24, _ => el_2_24
  | 25, _ => el_2_25
  | 26, _ => el_2_26
  | 27, _ => el_2_27
  | 28, _ => el_2_28
  | 29, _ => el_2_29
  | 30, _ => el_2_30
  | 31, _ => el_2_31
  | 32, _ => el_2_32
  | 33, _ => el_2_33
  | 34, _ => el_2_34
  | 35, _ => el_2_35
  | 36, _ => el_2_36
  | 37, _ => el_2_37
  | 38, _ => el_2_38
  | 39, _ => el_2_39
  | 40, _ => el_2_40
  | 41, _ => el_2_41
  | 42, _ => el_2_42
  | 43, _ => el_2_43
  | 44, _ => el_2_44
  | 45, _ => el_2_45
  | 46, _ => el_2_46
  | 47, _ => el_2_47
  | 48, _ => el_2_48
  | 49, _ => el_2_49
  | 50, _ => el_2_50
  | 51, _ => el_2_51
  | 52, _ => el_2_52
  | 53, _ => el_2_53
  | 54, _ => el_2_54
  | 55, _ => el_2_55
  | 56, _ => el_2_56
  | 57, _ => el_2_57
  | 58, _ => el_2_58
  | 59, _ => el_2_59
  | 60, _ => el_2_60
  | 61, _ => el_2_61
  | 62, _ => el_2_62
  | 63, _ => el_2_63
  | 64, _ => el_2_64
  | 65, _ => el_2_65
  | 66, _ => el_2_66
  | 67, _ => el_2_67
  | 68, _ => el_2_68
  | 69, _ => el_2_69
  | 70, _ => el_2_70
  | 71, _ => el_2_71
  | 72, _ => el_2_72
  | k + 73, h => absurd h (by show ¬ k + 73 < 73; omega)
theorem el_3_0 : Cond.eq (.elem (.field (tmS 3) "java/lang/String" "value" "[B") (.int (Int32.ofNat 0))) (.int ((sbyt.getD 3 []).getD 0 0)) ∈ flN := List.mem_of_getElem? (i := 210) (by decide +kernel)
theorem el_3_1 : Cond.eq (.elem (.field (tmS 3) "java/lang/String" "value" "[B") (.int (Int32.ofNat 1))) (.int ((sbyt.getD 3 []).getD 1 0)) ∈ flN := List.mem_of_getElem? (i := 211) (by decide +kernel)
theorem el_3_2 : Cond.eq (.elem (.field (tmS 3) "java/lang/String" "value" "[B") (.int (Int32.ofNat 2))) (.int ((sbyt.getD 3 []).getD 2 0)) ∈ flN := List.mem_of_getElem? (i := 212) (by decide +kernel)
theorem el_3_3 : Cond.eq (.elem (.field (tmS 3) "java/lang/String" "value" "[B") (.int (Int32.ofNat 3))) (.int ((sbyt.getD 3 []).getD 3 0)) ∈ flN := List.mem_of_getElem? (i := 213) (by decide +kernel)
theorem el_3_4 : Cond.eq (.elem (.field (tmS 3) "java/lang/String" "value" "[B") (.int (Int32.ofNat 4))) (.int ((sbyt.getD 3 []).getD 4 0)) ∈ flN := List.mem_of_getElem? (i := 214) (by decide +kernel)
theorem el_3 : ∀ j, j < slen.getD 3 0 → Cond.eq (.elem (.field (tmS 3) "java/lang/String" "value" "[B") (.int (Int32.ofNat j))) (.int ((sbyt.getD 3 []).getD j 0)) ∈ flN := fun j hj => match j, hj with
  | 0, _ => el_3_0
  | 1, _ => el_3_1
  | 2, _ => el_3_2
  | 3, _ => el_3_3
  | 4, _ => el_3_4
  | k + 5, h => absurd h (by show ¬ k + 5 < 5; omega)
theorem el_4_0 : Cond.eq (.elem (.field (tmS 4) "java/lang/String" "value" "[B") (.int (Int32.ofNat 0))) (.int ((sbyt.getD 4 []).getD 0 0)) ∈ flN := List.mem_of_getElem? (i := 222) (by decide +kernel)
theorem el_4_1 : Cond.eq (.elem (.field (tmS 4) "java/lang/String" "value" "[B") (.int (Int32.ofNat 1))) (.int ((sbyt.getD 4 []).getD 1 0)) ∈ flN := List.mem_of_getElem? (i := 223) (by decide +kernel)
theorem el_4_2 : Cond.eq (.elem (.field (tmS 4) "java/lang/String" "value" "[B") (.int (Int32.ofNat 2))) (.int ((sbyt.getD 4 []).getD 2 0)) ∈ flN := List.mem_of_getElem? (i := 224) (by decide +kernel)
theorem el_4_3 : Cond.eq (.elem (.field (tmS 4) "java/lang/String" "value" "[B") (.int (Int32.ofNat 3))) (.int ((sbyt.getD 4 []).getD 3 0)) ∈ flN := List.mem_of_getElem? (i := 225) (by decide +kernel)
theorem el_4 : ∀ j, j < slen.getD 4 0 → Cond.eq (.elem (.field (tmS 4) "java/lang/String" "value" "[B") (.int (Int32.ofNat j))) (.int ((sbyt.getD 4 []).getD j 0)) ∈ flN := fun j hj => match j, hj with
  | 0, _ => el_4_0
  | 1, _ => el_4_1
  | 2, _ => el_4_2
  | 3, _ => el_4_3
  | k + 4, h => absurd h (by show ¬ k + 4 < 4; omega)
theorem el_5_0 : Cond.eq (.elem (.field (tmS 5) "java/lang/String" "value" "[B") (.int (Int32.ofNat 0))) (.int ((sbyt.getD 5 []).getD 0 0)) ∈ flN := List.mem_of_getElem? (i := 234) (by decide +kernel)
theorem el_5_1 : Cond.eq (.elem (.field (tmS 5) "java/lang/String" "value" "[B") (.int (Int32.ofNat 1))) (.int ((sbyt.getD 5 []).getD 1 0)) ∈ flN := List.mem_of_getElem? (i := 235) (by decide +kernel)
theorem el_5_2 : Cond.eq (.elem (.field (tmS 5) "java/lang/String" "value" "[B") (.int (Int32.ofNat 2))) (.int ((sbyt.getD 5 []).getD 2 0)) ∈ flN := List.mem_of_getElem? (i := 236) (by decide +kernel)
theorem el_5_3 : Cond.eq (.elem (.field (tmS 5) "java/lang/String" "value" "[B") (.int (Int32.ofNat 3))) (.int ((sbyt.getD 5 []).getD 3 0)) ∈ flN := List.mem_of_getElem? (i := 237) (by decide +kernel)
theorem el_5_4 : Cond.eq (.elem (.field (tmS 5) "java/lang/String" "value" "[B") (.int (Int32.ofNat 4))) (.int ((sbyt.getD 5 []).getD 4 0)) ∈ flN := List.mem_of_getElem? (i := 238) (by decide +kernel)
theorem el_5_5 : Cond.eq (.elem (.field (tmS 5) "java/lang/String" "value" "[B") (.int (Int32.ofNat 5))) (.int ((sbyt.getD 5 []).getD 5 0)) ∈ flN := List.mem_of_getElem? (i := 239) (by decide +kernel)
theorem el_5 : ∀ j, j < slen.getD 5 0 → Cond.eq (.elem (.field (tmS 5) "java/lang/String" "value" "[B") (.int (Int32.ofNat j))) (.int ((sbyt.getD 5 []).getD j 0)) ∈ flN := fun j hj => match j, hj with
  | 0, _ => el_5_0
  | 1, _ => el_5_1
  | 2, _ => el_5_2
  | 3, _ => el_5_3
  | 4, _ => el_5_4
  | 5, _ => el_5_5
  | k + 6, h => absurd h (by show ¬ k + 6 < 6; omega)
theorem el_6_0 : Cond.eq (.elem (.field (tmS 6) "java/lang/String" "value" "[B") (.int (Int32.ofNat 0))) (.int ((sbyt.getD 6 []).getD 0 0)) ∈ flN := List.mem_of_getElem? (i := 249) (by decide +kernel)
theorem el_6_1 : Cond.eq (.elem (.field (tmS 6) "java/lang/String" "value" "[B") (.int (Int32.ofNat 1))) (.int ((sbyt.getD 6 []).getD 1 0)) ∈ flN := List.mem_of_getElem? (i := 250) (by decide +kernel)
theorem el_6_2 : Cond.eq (.elem (.field (tmS 6) "java/lang/String" "value" "[B") (.int (Int32.ofNat 2))) (.int ((sbyt.getD 6 []).getD 2 0)) ∈ flN := List.mem_of_getElem? (i := 251) (by decide +kernel)
theorem el_6_3 : Cond.eq (.elem (.field (tmS 6) "java/lang/String" "value" "[B") (.int (Int32.ofNat 3))) (.int ((sbyt.getD 6 []).getD 3 0)) ∈ flN := List.mem_of_getElem? (i := 252) (by decide +kernel)
theorem el_6 : ∀ j, j < slen.getD 6 0 → Cond.eq (.elem (.field (tmS 6) "java/lang/String" "value" "[B") (.int (Int32.ofNat j))) (.int ((sbyt.getD 6 []).getD j 0)) ∈ flN := fun j hj => match j, hj with
  | 0, _ => el_6_0
  | 1, _ => el_6_1
  | 2, _ => el_6_2
  | 3, _ => el_6_3
  | k + 4, h => absurd h (by show ¬ k + 4 < 4; omega)
theorem el_7_0 : Cond.eq (.elem (.field (tmS 7) "java/lang/String" "value" "[B") (.int (Int32.ofNat 0))) (.int ((sbyt.getD 7 []).getD 0 0)) ∈ flN := List.mem_of_getElem? (i := 263) (by decide +kernel)
theorem el_7_1 : Cond.eq (.elem (.field (tmS 7) "java/lang/String" "value" "[B") (.int (Int32.ofNat 1))) (.int ((sbyt.getD 7 []).getD 1 0)) ∈ flN := List.mem_of_getElem? (i := 264) (by decide +kernel)
theorem el_7_2 : Cond.eq (.elem (.field (tmS 7) "java/lang/String" "value" "[B") (.int (Int32.ofNat 2))) (.int ((sbyt.getD 7 []).getD 2 0)) ∈ flN := List.mem_of_getElem? (i := 265) (by decide +kernel)
theorem el_7_3 : Cond.eq (.elem (.field (tmS 7) "java/lang/String" "value" "[B") (.int (Int32.ofNat 3))) (.int ((sbyt.getD 7 []).getD 3 0)) ∈ flN := List.mem_of_getElem? (i := 266) (by decide +kernel)
theorem el_7 : ∀ j, j < slen.getD 7 0 → Cond.eq (.elem (.field (tmS 7) "java/lang/String" "value" "[B") (.int (Int32.ofNat j))) (.int ((sbyt.getD 7 []).getD j 0)) ∈ flN := fun j hj => match j, hj with
  | 0, _ => el_7_0
  | 1, _ => el_7_1
  | 2, _ => el_7_2
  | 3, _ => el_7_3
  | k + 4, h => absurd h (by show ¬ k + 4 < 4; omega)
theorem el_8_0 : Cond.eq (.elem (.field (tmS 8) "java/lang/String" "value" "[B") (.int (Int32.ofNat 0))) (.int ((sbyt.getD 8 []).getD 0 0)) ∈ flN := List.mem_of_getElem? (i := 278) (by decide +kernel)
theorem el_8_1 : Cond.eq (.elem (.field (tmS 8) "java/lang/String" "value" "[B") (.int (Int32.ofNat 1))) (.int ((sbyt.getD 8 []).getD 1 0)) ∈ flN := List.mem_of_getElem? (i := 279) (by decide +kernel)
theorem el_8_2 : Cond.eq (.elem (.field (tmS 8) "java/lang/String" "value" "[B") (.int (Int32.ofNat 2))) (.int ((sbyt.getD 8 []).getD 2 0)) ∈ flN := List.mem_of_getElem? (i := 280) (by decide +kernel)
theorem el_8_3 : Cond.eq (.elem (.field (tmS 8) "java/lang/String" "value" "[B") (.int (Int32.ofNat 3))) (.int ((sbyt.getD 8 []).getD 3 0)) ∈ flN := List.mem_of_getElem? (i := 281) (by decide +kernel)
theorem el_8_4 : Cond.eq (.elem (.field (tmS 8) "java/lang/String" "value" "[B") (.int (Int32.ofNat 4))) (.int ((sbyt.getD 8 []).getD 4 0)) ∈ flN := List.mem_of_getElem? (i := 282) (by decide +kernel)
theorem el_8 : ∀ j, j < slen.getD 8 0 → Cond.eq (.elem (.field (tmS 8) "java/lang/String" "value" "[B") (.int (Int32.ofNat j))) (.int ((sbyt.getD 8 []).getD j 0)) ∈ flN := fun j hj => match j, hj with
  | 0, _ => el_8_0
  | 1, _ => el_8_1
  | 2, _ => el_8_2
  | 3, _ => el_8_3
  | 4, _ => el_8_4
  | k + 5, h => absurd h (by show ¬ k + 5 < 5; omega)
theorem el_9_0 : Cond.eq (.elem (.field (tmS 9) "java/lang/String" "value" "[B") (.int (Int32.ofNat 0))) (.int ((sbyt.getD 9 []).getD 0 0)) ∈ flN := List.mem_of_getElem? (i := 295) (by decide +kernel)
theorem el_9_1 : Cond.eq (.elem (.field (tmS 9) "java/lang/String" "value" "[B") (.int (Int32.ofNat 1))) (.int ((sbyt.getD 9 []).getD 1 0)) ∈ flN := List.mem_of_getElem? (i := 296) (by decide +kernel)
theorem el_9_2 : Cond.eq (.elem (.field (tmS 9) "java/lang/String" "value" "[B") (.int (Int32.ofNat 2))) (.int ((sbyt.getD 9 []).getD 2 0)) ∈ flN := List.mem_of_getElem? (i := 297) (by decide +kernel)
theorem el_9_3 : Cond.eq (.elem (.field (tmS 9) "java/lang/String" "value" "[B") (.int (Int32.ofNat 3))) (.int ((sbyt.getD 9 []).getD 3 0)) ∈ flN := List.mem_of_getElem? (i := 298) (by decide +kernel)
theorem el_9 : ∀ j, j < slen.getD 9 0 → Cond.eq (.elem (.field (tmS 9) "java/lang/String" "value" "[B") (.int (Int32.ofNat j))) (.int ((sbyt.getD 9 []).getD j 0)) ∈ flN := fun j hj => match j, hj with
  | 0, _ => el_9_0
  | 1, _ => el_9_1
  | 2, _ => el_9_2
  | 3, _ => el_9_3
  | k + 4, h => absurd h (by show ¬ k + 4 < 4; omega)
theorem el_10_0 : Cond.eq (.elem (.field (tmS 10) "java/lang/String" "value" "[B") (.int (Int32.ofNat 0))) (.int ((sbyt.getD 10 []).getD 0 0)) ∈ flN := List.mem_of_getElem? (i := 312) (by decide +kernel)
theorem el_10_1 : Cond.eq (.elem (.field (tmS 10) "java/lang/String" "value" "[B") (.int (Int32.ofNat 1))) (.int ((sbyt.getD 10 []).getD 1 0)) ∈ flN := List.mem_of_getElem? (i := 313) (by decide +kernel)
theorem el_10_2 : Cond.eq (.elem (.field (tmS 10) "java/lang/String" "value" "[B") (.int (Int32.ofNat 2))) (.int ((sbyt.getD 10 []).getD 2 0)) ∈ flN := List.mem_of_getElem? (i := 314) (by decide +kernel)
theorem el_10_3 : Cond.eq (.elem (.field (tmS 10) "java/lang/String" "value" "[B") (.int (Int32.ofNat 3))) (.int ((sbyt.getD 10 []).getD 3 0)) ∈ flN := List.mem_of_getElem? (i := 315) (by decide +kernel)
theorem el_10_4 : Cond.eq (.elem (.field (tmS 10) "java/lang/String" "value" "[B") (.int (Int32.ofNat 4))) (.int ((sbyt.getD 10 []).getD 4 0)) ∈ flN := List.mem_of_getElem? (i := 316) (by decide +kernel)
theorem el_10 : ∀ j, j < slen.getD 10 0 → Cond.eq (.elem (.field (tmS 10) "java/lang/String" "value" "[B") (.int (Int32.ofNat j))) (.int ((sbyt.getD 10 []).getD j 0)) ∈ flN := fun j hj => match j, hj with
  | 0, _ => el_10_0
  | 1, _ => el_10_1
  | 2, _ => el_10_2
  | 3, _ => el_10_3
  | 4, _ => el_10_4
  | k + 5, h => absurd h (by show ¬ k + 5 < 5; omega)
theorem el_11_0 : Cond.eq (.elem (.field (tmS 11) "java/lang/String" "value" "[B") (.int (Int32.ofNat 0))) (.int ((sbyt.getD 11 []).getD 0 0)) ∈ flN := List.mem_of_getElem? (i := 331) (by decide +kernel)
theorem el_11_1 : Cond.eq (.elem (.field (tmS 11) "java/lang/String" "value" "[B") (.int (Int32.ofNat 1))) (.int ((sbyt.getD 11 []).getD 1 0)) ∈ flN := List.mem_of_getElem? (i := 332) (by decide +kernel)
theorem el_11_2 : Cond.eq (.elem (.field (tmS 11) "java/lang/String" "value" "[B") (.int (Int32.ofNat 2))) (.int ((sbyt.getD 11 []).getD 2 0)) ∈ flN := List.mem_of_getElem? (i := 333) (by decide +kernel)
theorem el_11_3 : Cond.eq (.elem (.field (tmS 11) "java/lang/String" "value" "[B") (.int (Int32.ofNat 3))) (.int ((sbyt.getD 11 []).getD 3 0)) ∈ flN := List.mem_of_getElem? (i := 334) (by decide +kernel)
theorem el_11_4 : Cond.eq (.elem (.field (tmS 11) "java/lang/String" "value" "[B") (.int (Int32.ofNat 4))) (.int ((sbyt.getD 11 []).getD 4 0)) ∈ flN := List.mem_of_getElem? (i := 335) (by decide +kernel)
theorem el_11 : ∀ j, j < slen.getD 11 0 → Cond.eq (.elem (.field (tmS 11) "java/lang/String" "value" "[B") (.int (Int32.ofNat j))) (.int ((sbyt.getD 11 []).getD j 0)) ∈ flN := fun j hj => match j, hj with
  | 0, _ => el_11_0
  | 1, _ => el_11_1
  | 2, _ => el_11_2
  | 3, _ => el_11_3
  | 4, _ => el_11_4
  | k + 5, h => absurd h (by show ¬ k + 5 < 5; omega)
theorem el_12_0 : Cond.eq (.elem (.field (tmS 12) "java/lang/String" "value" "[B") (.int (Int32.ofNat 0))) (.int ((sbyt.getD 12 []).getD 0 0)) ∈ flN := List.mem_of_getElem? (i := 351) (by decide +kernel)
theorem el_12_1 : Cond.eq (.elem (.field (tmS 12) "java/lang/String" "value" "[B") (.int (Int32.ofNat 1))) (.int ((sbyt.getD 12 []).getD 1 0)) ∈ flN := List.mem_of_getElem? (i := 352) (by decide +kernel)
theorem el_12_2 : Cond.eq (.elem (.field (tmS 12) "java/lang/String" "value" "[B") (.int (Int32.ofNat 2))) (.int ((sbyt.getD 12 []).getD 2 0)) ∈ flN := List.mem_of_getElem? (i := 353) (by decide +kernel)
theorem el_12_3 : Cond.eq (.elem (.field (tmS 12) "java/lang/String" "value" "[B") (.int (Int32.ofNat 3))) (.int ((sbyt.getD 12 []).getD 3 0)) ∈ flN := List.mem_of_getElem? (i := 354) (by decide +kernel)
theorem el_12_4 : Cond.eq (.elem (.field (tmS 12) "java/lang/String" "value" "[B") (.int (Int32.ofNat 4))) (.int ((sbyt.getD 12 []).getD 4 0)) ∈ flN := List.mem_of_getElem? (i := 355) (by decide +kernel)
theorem el_12 : ∀ j, j < slen.getD 12 0 → Cond.eq (.elem (.field (tmS 12) "java/lang/String" "value" "[B") (.int (Int32.ofNat j))) (.int ((sbyt.getD 12 []).getD j 0)) ∈ flN := fun j hj => match j, hj with
  | 0, _ => el_12_0
  | 1, _ => el_12_1
  | 2, _ => el_12_2
  | 3, _ => el_12_3
  | 4, _ => el_12_4
  | k + 5, h => absurd h (by show ¬ k + 5 < 5; omega)
theorem el_13_0 : Cond.eq (.elem (.field (tmS 13) "java/lang/String" "value" "[B") (.int (Int32.ofNat 0))) (.int ((sbyt.getD 13 []).getD 0 0)) ∈ flN := List.mem_of_getElem? (i := 372) (by decide +kernel)
theorem el_13_1 : Cond.eq (.elem (.field (tmS 13) "java/lang/String" "value" "[B") (.int (Int32.ofNat 1))) (.int ((sbyt.getD 13 []).getD 1 0)) ∈ flN := List.mem_of_getElem? (i := 373) (by decide +kernel)
theorem el_13_2 : Cond.eq (.elem (.field (tmS 13) "java/lang/String" "value" "[B") (.int (Int32.ofNat 2))) (.int ((sbyt.getD 13 []).getD 2 0)) ∈ flN := List.mem_of_getElem? (i := 374) (by decide +kernel)
theorem el_13_3 : Cond.eq (.elem (.field (tmS 13) "java/lang/String" "value" "[B") (.int (Int32.ofNat 3))) (.int ((sbyt.getD 13 []).getD 3 0)) ∈ flN := List.mem_of_getElem? (i := 375) (by decide +kernel)
theorem el_13_4 : Cond.eq (.elem (.field (tmS 13) "java/lang/String" "value" "[B") (.int (Int32.ofNat 4))) (.int ((sbyt.getD 13 []).getD 4 0)) ∈ flN := List.mem_of_getElem? (i := 376) (by decide +kernel)
theorem el_13 : ∀ j, j < slen.getD 13 0 → Cond.eq (.elem (.field (tmS 13) "java/lang/String" "value" "[B") (.int (Int32.ofNat j))) (.int ((sbyt.getD 13 []).getD j 0)) ∈ flN := fun j hj => match j, hj with
  | 0, _ => el_13_0
  | 1, _ => el_13_1
  | 2, _ => el_13_2
  | 3, _ => el_13_3
  | 4, _ => el_13_4
  | k + 5, h => absurd h (by show ¬ k + 5 < 5; omega)
theorem el_14_0 : Cond.eq (.elem (.field (tmS 14) "java/lang/String" "value" "[B") (.int (Int32.ofNat 0))) (.int ((sbyt.getD 14 []).getD 0 0)) ∈ flN := List.mem_of_getElem? (i := 394) (by decide +kernel)
theorem el_14_1 : Cond.eq (.elem (.field (tmS 14) "java/lang/String" "value" "[B") (.int (Int32.ofNat 1))) (.int ((sbyt.getD 14 []).getD 1 0)) ∈ flN := List.mem_of_getElem? (i := 395) (by decide +kernel)
theorem el_14_2 : Cond.eq (.elem (.field (tmS 14) "java/lang/String" "value" "[B") (.int (Int32.ofNat 2))) (.int ((sbyt.getD 14 []).getD 2 0)) ∈ flN := List.mem_of_getElem? (i := 396) (by decide +kernel)
theorem el_14_3 : Cond.eq (.elem (.field (tmS 14) "java/lang/String" "value" "[B") (.int (Int32.ofNat 3))) (.int ((sbyt.getD 14 []).getD 3 0)) ∈ flN := List.mem_of_getElem? (i := 397) (by decide +kernel)
theorem el_14_4 : Cond.eq (.elem (.field (tmS 14) "java/lang/String" "value" "[B") (.int (Int32.ofNat 4))) (.int ((sbyt.getD 14 []).getD 4 0)) ∈ flN := List.mem_of_getElem? (i := 398) (by decide +kernel)
theorem el_14 : ∀ j, j < slen.getD 14 0 → Cond.eq (.elem (.field (tmS 14) "java/lang/String" "value" "[B") (.int (Int32.ofNat j))) (.int ((sbyt.getD 14 []).getD j 0)) ∈ flN := fun j hj => match j, hj with
  | 0, _ => el_14_0
  | 1, _ => el_14_1
  | 2, _ => el_14_2
  | 3, _ => el_14_3
  | 4, _ => el_14_4
  | k + 5, h => absurd h (by show ¬ k + 5 < 5; omega)
theorem el_15_0 : Cond.eq (.elem (.field (tmS 15) "java/lang/String" "value" "[B") (.int (Int32.ofNat 0))) (.int ((sbyt.getD 15 []).getD 0 0)) ∈ flN := List.mem_of_getElem? (i := 417) (by decide +kernel)
theorem el_15_1 : Cond.eq (.elem (.field (tmS 15) "java/lang/String" "value" "[B") (.int (Int32.ofNat 1))) (.int ((sbyt.getD 15 []).getD 1 0)) ∈ flN := List.mem_of_getElem? (i := 418) (by decide +kernel)
theorem el_15_2 : Cond.eq (.elem (.field (tmS 15) "java/lang/String" "value" "[B") (.int (Int32.ofNat 2))) (.int ((sbyt.getD 15 []).getD 2 0)) ∈ flN := List.mem_of_getElem? (i := 419) (by decide +kernel)
theorem el_15_3 : Cond.eq (.elem (.field (tmS 15) "java/lang/String" "value" "[B") (.int (Int32.ofNat 3))) (.int ((sbyt.getD 15 []).getD 3 0)) ∈ flN := List.mem_of_getElem? (i := 420) (by decide +kernel)
theorem el_15 : ∀ j, j < slen.getD 15 0 → Cond.eq (.elem (.field (tmS 15) "java/lang/String" "value" "[B") (.int (Int32.ofNat j))) (.int ((sbyt.getD 15 []).getD j 0)) ∈ flN := fun j hj => match j, hj with
  | 0, _ => el_15_0
  | 1, _ => el_15_1
  | 2, _ => el_15_2
  | 3, _ => el_15_3
  | k + 4, h => absurd h (by show ¬ k + 4 < 4; omega)
theorem el_16_0 : Cond.eq (.elem (.field (tmS 16) "java/lang/String" "value" "[B") (.int (Int32.ofNat 0))) (.int ((sbyt.getD 16 []).getD 0 0)) ∈ flN := List.mem_of_getElem? (i := 440) (by decide +kernel)
theorem el_16_1 : Cond.eq (.elem (.field (tmS 16) "java/lang/String" "value" "[B") (.int (Int32.ofNat 1))) (.int ((sbyt.getD 16 []).getD 1 0)) ∈ flN := List.mem_of_getElem? (i := 441) (by decide +kernel)
theorem el_16_2 : Cond.eq (.elem (.field (tmS 16) "java/lang/String" "value" "[B") (.int (Int32.ofNat 2))) (.int ((sbyt.getD 16 []).getD 2 0)) ∈ flN := List.mem_of_getElem? (i := 442) (by decide +kernel)
theorem el_16_3 : Cond.eq (.elem (.field (tmS 16) "java/lang/String" "value" "[B") (.int (Int32.ofNat 3))) (.int ((sbyt.getD 16 []).getD 3 0)) ∈ flN := List.mem_of_getElem? (i := 443) (by decide +kernel)
theorem el_16_4 : Cond.eq (.elem (.field (tmS 16) "java/lang/String" "value" "[B") (.int (Int32.ofNat 4))) (.int ((sbyt.getD 16 []).getD 4 0)) ∈ flN := List.mem_of_getElem? (i := 444) (by decide +kernel)
theorem el_16 : ∀ j, j < slen.getD 16 0 → Cond.eq (.elem (.field (tmS 16) "java/lang/String" "value" "[B") (.int (Int32.ofNat j))) (.int ((sbyt.getD 16 []).getD j 0)) ∈ flN := fun j hj => match j, hj with
  | 0, _ => el_16_0
  | 1, _ => el_16_1
  | 2, _ => el_16_2
  | 3, _ => el_16_3
  | 4, _ => el_16_4
  | k + 5, h => absurd h (by show ¬ k + 5 < 5; omega)
theorem el_17_0 : Cond.eq (.elem (.field (tmS 17) "java/lang/String" "value" "[B") (.int (Int32.ofNat 0))) (.int ((sbyt.getD 17 []).getD 0 0)) ∈ flN := List.mem_of_getElem? (i := 465) (by decide +kernel)
theorem el_17_1 : Cond.eq (.elem (.field (tmS 17) "java/lang/String" "value" "[B") (.int (Int32.ofNat 1))) (.int ((sbyt.getD 17 []).getD 1 0)) ∈ flN := List.mem_of_getElem? (i := 466) (by decide +kernel)
theorem el_17_2 : Cond.eq (.elem (.field (tmS 17) "java/lang/String" "value" "[B") (.int (Int32.ofNat 2))) (.int ((sbyt.getD 17 []).getD 2 0)) ∈ flN := List.mem_of_getElem? (i := 467) (by decide +kernel)
theorem el_17_3 : Cond.eq (.elem (.field (tmS 17) "java/lang/String" "value" "[B") (.int (Int32.ofNat 3))) (.int ((sbyt.getD 17 []).getD 3 0)) ∈ flN := List.mem_of_getElem? (i := 468) (by decide +kernel)
theorem el_17_4 : Cond.eq (.elem (.field (tmS 17) "java/lang/String" "value" "[B") (.int (Int32.ofNat 4))) (.int ((sbyt.getD 17 []).getD 4 0)) ∈ flN := List.mem_of_getElem? (i := 469) (by decide +kernel)
theorem el_17_5 : Cond.eq (.elem (.field (tmS 17) "java/lang/String" "value" "[B") (.int (Int32.ofNat 5))) (.int ((sbyt.getD 17 []).getD 5 0)) ∈ flN := List.mem_of_getElem? (i := 470) (by decide +kernel)
theorem el_17_6 : Cond.eq (.elem (.field (tmS 17) "java/lang/String" "value" "[B") (.int (Int32.ofNat 6))) (.int ((sbyt.getD 17 []).getD 6 0)) ∈ flN := List.mem_of_getElem? (i := 471) (by decide +kernel)
theorem el_17 : ∀ j, j < slen.getD 17 0 → Cond.eq (.elem (.field (tmS 17) "java/lang/String" "value" "[B") (.int (Int32.ofNat j))) (.int ((sbyt.getD 17 []).getD j 0)) ∈ flN := fun j hj => match j, hj with
  | 0, _ => el_17_0
  | 1, _ => el_17_1
  | 2, _ => el_17_2
  | 3, _ => el_17_3
  | 4, _ => el_17_4
  | 5, _ => el_17_5
  | 6, _ => el_17_6
  | k + 7, h => absurd h (by show ¬ k + 7 < 7; omega)
theorem el_18_0 : Cond.eq (.elem (.field (tmS 18) "java/lang/String" "value" "[B") (.int (Int32.ofNat 0))) (.int ((sbyt.getD 18 []).getD 0 0)) ∈ flN := List.mem_of_getElem? (i := 493) (by decide +kernel)
theorem el_18_1 : Cond.eq (.elem (.field (tmS 18) "java/lang/String" "value" "[B") (.int (Int32.ofNat 1))) (.int ((sbyt.getD 18 []).getD 1 0)) ∈ flN := List.mem_of_getElem? (i := 494) (by decide +kernel)
theorem el_18_2 : Cond.eq (.elem (.field (tmS 18) "java/lang/String" "value" "[B") (.int (Int32.ofNat 2))) (.int ((sbyt.getD 18 []).getD 2 0)) ∈ flN := List.mem_of_getElem? (i := 495) (by decide +kernel)
theorem el_18_3 : Cond.eq (.elem (.field (tmS 18) "java/lang/String" "value" "[B") (.int (Int32.ofNat 3))) (.int ((sbyt.getD 18 []).getD 3 0)) ∈ flN := List.mem_of_getElem? (i := 496) (by decide +kernel)
theorem el_18_4 : Cond.eq (.elem (.field (tmS 18) "java/lang/String" "value" "[B") (.int (Int32.ofNat 4))) (.int ((sbyt.getD 18 []).getD 4 0)) ∈ flN := List.mem_of_getElem? (i := 497) (by decide +kernel)
theorem el_18_5 : Cond.eq (.elem (.field (tmS 18) "java/lang/String" "value" "[B") (.int (Int32.ofNat 5))) (.int ((sbyt.getD 18 []).getD 5 0)) ∈ flN := List.mem_of_getElem? (i := 498) (by decide +kernel)
theorem el_18_6 : Cond.eq (.elem (.field (tmS 18) "java/lang/String" "value" "[B") (.int (Int32.ofNat 6))) (.int ((sbyt.getD 18 []).getD 6 0)) ∈ flN := List.mem_of_getElem? (i := 499) (by decide +kernel)
theorem el_18 : ∀ j, j < slen.getD 18 0 → Cond.eq (.elem (.field (tmS 18) "java/lang/String" "value" "[B") (.int (Int32.ofNat j))) (.int ((sbyt.getD 18 []).getD j 0)) ∈ flN := fun j hj => match j, hj with
  | 0, _ => el_18_0
  | 1, _ => el_18_1
  | 2, _ => el_18_2
  | 3, _ => el_18_3
  | 4, _ => el_18_4
  | 5, _ => el_18_5
  | 6, _ => el_18_6
  | k + 7, h => absurd h (by show ¬ k + 7 < 7; omega)
theorem el_19_0 : Cond.eq (.elem (.field (tmS 19) "java/lang/String" "value" "[B") (.int (Int32.ofNat 0))) (.int ((sbyt.getD 19 []).getD 0 0)) ∈ flN := List.mem_of_getElem? (i := 522) (by decide +kernel)
theorem el_19_1 : Cond.eq (.elem (.field (tmS 19) "java/lang/String" "value" "[B") (.int (Int32.ofNat 1))) (.int ((sbyt.getD 19 []).getD 1 0)) ∈ flN := List.mem_of_getElem? (i := 523) (by decide +kernel)
theorem el_19 : ∀ j, j < slen.getD 19 0 → Cond.eq (.elem (.field (tmS 19) "java/lang/String" "value" "[B") (.int (Int32.ofNat j))) (.int ((sbyt.getD 19 []).getD j 0)) ∈ flN := fun j hj => match j, hj with
  | 0, _ => el_19_0
  | 1, _ => el_19_1
  | k + 2, h => absurd h (by show ¬ k + 2 < 2; omega)
theorem el_20_0 : Cond.eq (.elem (.field (tmS 20) "java/lang/String" "value" "[B") (.int (Int32.ofNat 0))) (.int ((sbyt.getD 20 []).getD 0 0)) ∈ flN := List.mem_of_getElem? (i := 547) (by decide +kernel)
theorem el_20_1 : Cond.eq (.elem (.field (tmS 20) "java/lang/String" "value" "[B") (.int (Int32.ofNat 1))) (.int ((sbyt.getD 20 []).getD 1 0)) ∈ flN := List.mem_of_getElem? (i := 548) (by decide +kernel)
theorem el_20_2 : Cond.eq (.elem (.field (tmS 20) "java/lang/String" "value" "[B") (.int (Int32.ofNat 2))) (.int ((sbyt.getD 20 []).getD 2 0)) ∈ flN := List.mem_of_getElem? (i := 549) (by decide +kernel)
theorem el_20 : ∀ j, j < slen.getD 20 0 → Cond.eq (.elem (.field (tmS 20) "java/lang/String" "value" "[B") (.int (Int32.ofNat j))) (.int ((sbyt.getD 20 []).getD j 0)) ∈ flN := fun j hj => match j, hj with
  | 0, _ => el_20_0
  | 1, _ => el_20_1
  | 2, _ => el_20_2
  | k + 3, h => absurd h (by show ¬ k + 3 < 3; omega)
theorem el_21_0 : Cond.eq (.elem (.field (tmS 21) "java/lang/String" "value" "[B") (.int (Int32.ofNat 0))) (.int ((sbyt.getD 21 []).getD 0 0)) ∈ flN := List.mem_of_getElem? (i := 574) (by decide +kernel)
theorem el_21_1 : Cond.eq (.elem (.field (tmS 21) "java/lang/String" "value" "[B") (.int (Int32.ofNat 1))) (.int ((sbyt.getD 21 []).getD 1 0)) ∈ flN := List.mem_of_getElem? (i := 575) (by decide +kernel)
theorem el_21_2 : Cond.eq (.elem (.field (tmS 21) "java/lang/String" "value" "[B") (.int (Int32.ofNat 2))) (.int ((sbyt.getD 21 []).getD 2 0)) ∈ flN := List.mem_of_getElem? (i := 576) (by decide +kernel)
theorem el_21 : ∀ j, j < slen.getD 21 0 → Cond.eq (.elem (.field (tmS 21) "java/lang/String" "value" "[B") (.int (Int32.ofNat j))) (.int ((sbyt.getD 21 []).getD j 0)) ∈ flN := fun j hj => match j, hj with
  | 0, _ => el_21_0
  | 1, _ => el_21_1
  | 2, _ => el_21_2
  | k + 3, h => absurd h (by show ¬ k + 3 < 3; omega)
theorem el_22_0 : Cond.eq (.elem (.field (tmS 22) "java/lang/String" "value" "[B") (.int (Int32.ofNat 0))) (.int ((sbyt.getD 22 []).getD 0 0)) ∈ flN := List.mem_of_getElem? (i := 602) (by decide +kernel)
theorem el_22_1 : Cond.eq (.elem (.field (tmS 22) "java/lang/String" "value" "[B") (.int (Int32.ofNat 1))) (.int ((sbyt.getD 22 []).getD 1 0)) ∈ flN := List.mem_of_getElem? (i := 603) (by decide +kernel)
theorem el_22 : ∀ j, j < slen.getD 22 0 → Cond.eq (.elem (.field (tmS 22) "java/lang/String" "value" "[B") (.int (Int32.ofNat j))) (.int ((sbyt.getD 22 []).getD j 0)) ∈ flN := fun j hj => match j, hj with
  | 0, _ => el_22_0
  | 1, _ => el_22_1
  | k + 2, h => absurd h (by show ¬ k + 2 < 2; omega)
theorem en_el : ∀ i, i < 23 → ∀ j, j < slen.getD i 0 → Cond.eq (.elem (.field (tmS i) "java/lang/String" "value" "[B") (.int (Int32.ofNat j))) (.int ((sbyt.getD i []).getD j 0)) ∈ flN := fun i hi => match i, hi with
  | 0, _ => el_0
  | 1, _ => el_1
  | 2, _ => el_2
  | 3, _ => el_3
  | 4, _ => el_4
  | 5, _ => el_5
  | 6, _ => el_6
  | 7, _ => el_7
  | 8, _ => el_8
  | 9, _ => el_9
  | 10, _ => el_10
  | 11, _ => el_11
  | 12, _ => el_12
  | 13, _ => el_13
  | 14, _ => el_14
  | 15, _ => el_15
  | 16, _ => el_16
  | 17, _ => el_17
  | 18, _ => el_18
  | 19, _ => el_19
  | 20, _ => el_20
  | 21, _ => el_21
  | 22, _ => el_22
  | k + 23, h => absurd h (by omega)
theorem ne_0_1 : Cond.not (Cond.eq (tmS 0) (tmS 1)) ∈ flN := List.mem_of_getElem? (i := 126) (by decide +kernel)
theorem ne_0_2 : Cond.not (Cond.eq (tmS 0) (tmS 2)) ∈ flN := List.mem_of_getElem? (i := 204) (by decide +kernel)
theorem ne_0_3 : Cond.not (Cond.eq (tmS 0) (tmS 3)) ∈ flN := List.mem_of_getElem? (i := 215) (by decide +kernel)
theorem ne_0_4 : Cond.not (Cond.eq (tmS 0) (tmS 4)) ∈ flN := List.mem_of_getElem? (i := 226) (by decide +kernel)
theorem ne_0_5 : Cond.not (Cond.eq (tmS 0) (tmS 5)) ∈ flN := List.mem_of_getElem? (i := 240) (by decide +kernel)
theorem ne_0_6 : Cond.not (Cond.eq (tmS 0) (tmS 6)) ∈ flN := List.mem_of_getElem? (i := 253) (by decide +kernel)
theorem ne_0_7 : Cond.not (Cond.eq (tmS 0) (tmS 7)) ∈ flN := List.mem_of_getElem? (i := 267) (by decide +kernel)
theorem ne_0_8 : Cond.not (Cond.eq (tmS 0) (tmS 8)) ∈ flN := List.mem_of_getElem? (i := 283) (by decide +kernel)
theorem ne_0_9 : Cond.not (Cond.eq (tmS 0) (tmS 9)) ∈ flN := List.mem_of_getElem? (i := 299) (by decide +kernel)
theorem ne_0_10 : Cond.not (Cond.eq (tmS 0) (tmS 10)) ∈ flN := List.mem_of_getElem? (i := 317) (by decide +kernel)
theorem ne_0_11 : Cond.not (Cond.eq (tmS 0) (tmS 11)) ∈ flN := List.mem_of_getElem? (i := 336) (by decide +kernel)
theorem ne_0_12 : Cond.not (Cond.eq (tmS 0) (tmS 12)) ∈ flN := List.mem_of_getElem? (i := 356) (by decide +kernel)
theorem ne_0_13 : Cond.not (Cond.eq (tmS 0) (tmS 13)) ∈ flN := List.mem_of_getElem? (i := 377) (by decide +kernel)
theorem ne_0_14 : Cond.not (Cond.eq (tmS 0) (tmS 14)) ∈ flN := List.mem_of_getElem? (i := 399) (by decide +kernel)
theorem ne_0_15 : Cond.not (Cond.eq (tmS 0) (tmS 15)) ∈ flN := List.mem_of_getElem? (i := 421) (by decide +kernel)
theorem ne_0_16 : Cond.not (Cond.eq (tmS 0) (tmS 16)) ∈ flN := List.mem_of_getElem? (i := 445) (by decide +kernel)
theorem ne_0_17 : Cond.not (Cond.eq (tmS 0) (tmS 17)) ∈ flN := List.mem_of_getElem? (i := 472) (by decide +kernel)
theorem ne_0_18 : Cond.not (Cond.eq (tmS 0) (tmS 18)) ∈ flN := List.mem_of_getElem? (i := 500) (by decide +kernel)
theorem ne_0_19 : Cond.not (Cond.eq (tmS 0) (tmS 19)) ∈ flN := List.mem_of_getElem? (i := 524) (by decide +kernel)
theorem ne_0_20 : Cond.not (Cond.eq (tmS 0) (tmS 20)) ∈ flN := List.mem_of_getElem? (i := 550) (by decide +kernel)
theorem ne_0_21 : Cond.not (Cond.eq (tmS 0) (tmS 21)) ∈ flN := List.mem_of_getElem? (i := 577) (by decide +kernel)
theorem ne_0_22 : Cond.not (Cond.eq (tmS 0) (tmS 22)) ∈ flN := List.mem_of_getElem? (i := 604) (by decide +kernel)
theorem ne_1_2 : Cond.not (Cond.eq (tmS 1) (tmS 2)) ∈ flN := List.mem_of_getElem? (i := 205) (by decide +kernel)
theorem ne_1_3 : Cond.not (Cond.eq (tmS 1) (tmS 3)) ∈ flN := List.mem_of_getElem? (i := 216) (by decide +kernel)
theorem ne_1_4 : Cond.not (Cond.eq (tmS 1) (tmS 4)) ∈ flN := List.mem_of_getElem? (i := 227) (by decide +kernel)
theorem ne_1_5 : Cond.not (Cond.eq (tmS 1) (tmS 5)) ∈ flN := List.mem_of_getElem? (i := 241) (by decide +kernel)
theorem ne_1_6 : Cond.not (Cond.eq (tmS 1) (tmS 6)) ∈ flN := List.mem_of_getElem? (i := 254) (by decide +kernel)
theorem ne_1_7 : Cond.not (Cond.eq (tmS 1) (tmS 7)) ∈ flN := List.mem_of_getElem? (i := 268) (by decide +kernel)
theorem ne_1_8 : Cond.not (Cond.eq (tmS 1) (tmS 8)) ∈ flN := List.mem_of_getElem? (i := 284) (by decide +kernel)
theorem ne_1_9 : Cond.not (Cond.eq (tmS 1) (tmS 9)) ∈ flN := List.mem_of_getElem? (i := 300) (by decide +kernel)
theorem ne_1_10 : Cond.not (Cond.eq (tmS 1) (tmS 10)) ∈ flN := List.mem_of_getElem? (i := 318) (by decide +kernel)
theorem ne_1_11 : Cond.not (Cond.eq (tmS 1) (tmS 11)) ∈ flN := List.mem_of_getElem? (i := 337) (by decide +kernel)
theorem ne_1_12 : Cond.not (Cond.eq (tmS 1) (tmS 12)) ∈ flN := List.mem_of_getElem? (i := 357) (by decide +kernel)
theorem ne_1_13 : Cond.not (Cond.eq (tmS 1) (tmS 13)) ∈ flN := List.mem_of_getElem? (i := 378) (by decide +kernel)
theorem ne_1_14 : Cond.not (Cond.eq (tmS 1) (tmS 14)) ∈ flN := List.mem_of_getElem? (i := 400) (by decide +kernel)
theorem ne_1_15 : Cond.not (Cond.eq (tmS 1) (tmS 15)) ∈ flN := List.mem_of_getElem? (i := 422) (by decide +kernel)
theorem ne_1_16 : Cond.not (Cond.eq (tmS 1) (tmS 16)) ∈ flN := List.mem_of_getElem? (i := 446) (by decide +kernel)
theorem ne_1_17 : Cond.not (Cond.eq (tmS 1) (tmS 17)) ∈ flN := List.mem_of_getElem? (i := 473) (by decide +kernel)
theorem ne_1_18 : Cond.not (Cond.eq (tmS 1) (tmS 18)) ∈ flN := List.mem_of_getElem? (i := 501) (by decide +kernel)
theorem ne_1_19 : Cond.not (Cond.eq (tmS 1) (tmS 19)) ∈ flN := List.mem_of_getElem? (i := 525) (by decide +kernel)
theorem ne_1_20 : Cond.not (Cond.eq (tmS 1) (tmS 20)) ∈ flN := List.mem_of_getElem? (i := 551) (by decide +kernel)
theorem ne_1_21 : Cond.not (Cond.eq (tmS 1) (tmS 21)) ∈ flN := List.mem_of_getElem? (i := 578) (by decide +kernel)
theorem ne_1_22 : Cond.not (Cond.eq (tmS 1) (tmS 22)) ∈ flN := List.mem_of_getElem? (i := 605) (by decide +kernel)
theorem ne_2_3 : Cond.not (Cond.eq (tmS 2) (tmS 3)) ∈ flN := List.mem_of_getElem? (i := 217) (by decide +kernel)
theorem ne_2_4 : Cond.not (Cond.eq (tmS 2) (tmS 4)) ∈ flN := List.mem_of_getElem? (i := 228) (by decide +kernel)
theorem ne_2_5 : Cond.not (Cond.eq (tmS 2) (tmS 5)) ∈ flN := List.mem_of_getElem? (i := 242) (by decide +kernel)
theorem ne_2_6 : Cond.not (Cond.eq (tmS 2) (tmS 6)) ∈ flN := List.mem_of_getElem? (i := 255) (by decide +kernel)
theorem ne_2_7 : Cond.not (Cond.eq (tmS 2) (tmS 7)) ∈ flN := List.mem_of_getElem? (i := 269) (by decide +kernel)
theorem ne_2_8 : Cond.not (Cond.eq (tmS 2) (tmS 8)) ∈ flN := List.mem_of_getElem? (i := 285) (by decide +kernel)
theorem ne_2_9 : Cond.not (Cond.eq (tmS 2) (tmS 9)) ∈ flN := List.mem_of_getElem? (i := 301) (by decide +kernel)
theorem ne_2_10 : Cond.not (Cond.eq (tmS 2) (tmS 10)) ∈ flN := List.mem_of_getElem? (i := 319) (by decide +kernel)
theorem ne_2_11 : Cond.not (Cond.eq (tmS 2) (tmS 11)) ∈ flN := List.mem_of_getElem? (i := 338) (by decide +kernel)
theorem ne_2_12 : Cond.not (Cond.eq (tmS 2) (tmS 12)) ∈ flN := List.mem_of_getElem? (i := 358) (by decide +kernel)
theorem ne_2_13 : Cond.not (Cond.eq (tmS 2) (tmS 13)) ∈ flN := List.mem_of_getElem? (i := 379) (by decide +kernel)
theorem ne_2_14 : Cond.not (Cond.eq (tmS 2) (tmS 14)) ∈ flN := List.mem_of_getElem? (i := 401) (by decide +kernel)
theorem ne_2_15 : Cond.not (Cond.eq (tmS 2) (tmS 15)) ∈ flN := List.mem_of_getElem? (i := 423) (by decide +kernel)
theorem ne_2_16 : Cond.not (Cond.eq (tmS 2) (tmS 16)) ∈ flN := List.mem_of_getElem? (i := 447) (by decide +kernel)
theorem ne_2_17 : Cond.not (Cond.eq (tmS 2) (tmS 17)) ∈ flN := List.mem_of_getElem? (i := 474) (by decide +kernel)
theorem ne_2_18 : Cond.not (Cond.eq (tmS 2) (tmS 18)) ∈ flN := List.mem_of_getElem? (i := 502) (by decide +kernel)
theorem ne_2_19 : Cond.not (Cond.eq (tmS 2) (tmS 19)) ∈ flN := List.mem_of_getElem? (i := 526) (by decide +kernel)
theorem ne_2_20 : Cond.not (Cond.eq (tmS 2) (tmS 20)) ∈ flN := List.mem_of_getElem? (i := 552) (by decide +kernel)
theorem ne_2_21 : Cond.not (Cond.eq (tmS 2) (tmS 21)) ∈ flN := List.mem_of_getElem? (i := 579) (by decide +kernel)
theorem ne_2_22 : Cond.not (Cond.eq (tmS 2) (tmS 22)) ∈ flN := List.mem_of_getElem? (i := 606) (by decide +kernel)
theorem ne_3_4 : Cond.not (Cond.eq (tmS 3) (tmS 4)) ∈ flN := List.mem_of_getElem? (i := 229) (by decide +kernel)
theorem ne_3_5 : Cond.not (Cond.eq (tmS 3) (tmS 5)) ∈ flN := List.mem_of_getElem? (i := 243) (by decide +kernel)
theorem ne_3_6 : Cond.not (Cond.eq (tmS 3) (tmS 6)) ∈ flN := List.mem_of_getElem? (i := 256) (by decide +kernel)
theorem ne_3_7 : Cond.not (Cond.eq (tmS 3) (tmS 7)) ∈ flN := List.mem_of_getElem? (i := 270) (by decide +kernel)
theorem ne_3_8 : Cond.not (Cond.eq (tmS 3) (tmS 8)) ∈ flN := List.mem_of_getElem? (i := 286) (by decide +kernel)
theorem ne_3_9 : Cond.not (Cond.eq (tmS 3) (tmS 9)) ∈ flN := List.mem_of_getElem? (i := 302) (by decide +kernel)
theorem ne_3_10 : Cond.not (Cond.eq (tmS 3) (tmS 10)) ∈ flN := List.mem_of_getElem? (i := 320) (by decide +kernel)
theorem ne_3_11 : Cond.not (Cond.eq (tmS 3) (tmS 11)) ∈ flN := List.mem_of_getElem? (i := 339) (by decide +kernel)
theorem ne_3_12 : Cond.not (Cond.eq (tmS 3) (tmS 12)) ∈ flN := List.mem_of_getElem? (i := 359) (by decide +kernel)
theorem ne_3_13 : Cond.not (Cond.eq (tmS 3) (tmS 13)) ∈ flN := List.mem_of_getElem? (i := 380) (by decide +kernel)
theorem ne_3_14 : Cond.not (Cond.eq (tmS 3) (tmS 14)) ∈ flN := List.mem_of_getElem? (i := 402) (by decide +kernel)
theorem ne_3_15 : Cond.not (Cond.eq (tmS 3) (tmS 15)) ∈ flN := List.mem_of_getElem? (i := 424) (by decide +kernel)
theorem ne_3_16 : Cond.not (Cond.eq (tmS 3) (tmS 16)) ∈ flN := List.mem_of_getElem? (i := 448) (by decide +kernel)
theorem ne_3_17 : Cond.not (Cond.eq (tmS 3) (tmS 17)) ∈ flN := List.mem_of_getElem? (i := 475) (by decide +kernel)
theorem ne_3_18 : Cond.not (Cond.eq (tmS 3) (tmS 18)) ∈ flN := List.mem_of_getElem? (i := 503) (by decide +kernel)
theorem ne_3_19 : Cond.not (Cond.eq (tmS 3) (tmS 19)) ∈ flN := List.mem_of_getElem? (i := 527) (by decide +kernel)
theorem ne_3_20 : Cond.not (Cond.eq (tmS 3) (tmS 20)) ∈ flN := List.mem_of_getElem? (i := 553) (by decide +kernel)
theorem ne_3_21 : Cond.not (Cond.eq (tmS 3) (tmS 21)) ∈ flN := List.mem_of_getElem? (i := 580) (by decide +kernel)
theorem ne_3_22 : Cond.not (Cond.eq (tmS 3) (tmS 22)) ∈ flN := List.mem_of_getElem? (i := 607) (by decide +kernel)
theorem ne_4_5 : Cond.not (Cond.eq (tmS 4) (tmS 5)) ∈ flN := List.mem_of_getElem? (i := 244) (by decide +kernel)
theorem ne_4_6 : Cond.not (Cond.eq (tmS 4) (tmS 6)) ∈ flN := List.mem_of_getElem? (i := 257) (by decide +kernel)
theorem ne_4_7 : Cond.not (Cond.eq (tmS 4) (tmS 7)) ∈ flN := List.mem_of_getElem? (i := 271) (by decide +kernel)
theorem ne_4_8 : Cond.not (Cond.eq (tmS 4) (tmS 8)) ∈ flN := List.mem_of_getElem? (i := 287) (by decide +kernel)
theorem ne_4_9 : Cond.not (Cond.eq (tmS 4) (tmS 9)) ∈ flN := List.mem_of_getElem? (i := 303) (by decide +kernel)
theorem ne_4_10 : Cond.not (Cond.eq (tmS 4) (tmS 10)) ∈ flN := List.mem_of_getElem? (i := 321) (by decide +kernel)
theorem ne_4_11 : Cond.not (Cond.eq (tmS 4) (tmS 11)) ∈ flN := List.mem_of_getElem? (i := 340) (by decide +kernel)
theorem ne_4_12 : Cond.not (Cond.eq (tmS 4) (tmS 12)) ∈ flN := List.mem_of_getElem? (i := 360) (by decide +kernel)
theorem ne_4_13 : Cond.not (Cond.eq (tmS 4) (tmS 13)) ∈ flN := List.mem_of_getElem? (i := 381) (by decide +kernel)
theorem ne_4_14 : Cond.not (Cond.eq (tmS 4) (tmS 14)) ∈ flN := List.mem_of_getElem? (i := 403) (by decide +kernel)
theorem ne_4_15 : Cond.not (Cond.eq (tmS 4) (tmS 15)) ∈ flN := List.mem_of_getElem? (i := 425) (by decide +kernel)
theorem ne_4_16 : Cond.not (Cond.eq (tmS 4) (tmS 16)) ∈ flN := List.mem_of_getElem? (i := 449) (by decide +kernel)
theorem ne_4_17 : Cond.not (Cond.eq (tmS 4) (tmS 17)) ∈ flN := List.mem_of_getElem? (i := 476) (by decide +kernel)
theorem ne_4_18 : Cond.not (Cond.eq (tmS 4) (tmS 18)) ∈ flN := List.mem_of_getElem? (i := 504) (by decide +kernel)
theorem ne_4_19 : Cond.not (Cond.eq (tmS 4) (tmS 19)) ∈ flN := List.mem_of_getElem? (i := 528) (by decide +kernel)
theorem ne_4_20 : Cond.not (Cond.eq (tmS 4) (tmS 20)) ∈ flN := List.mem_of_getElem? (i := 554) (by decide +kernel)
theorem ne_4_21 : Cond.not (Cond.eq (tmS 4) (tmS 21)) ∈ flN := List.mem_of_getElem? (i := 581) (by decide +kernel)
theorem ne_4_22 : Cond.not (Cond.eq (tmS 4) (tmS 22)) ∈ flN := List.mem_of_getElem? (i := 608) (by decide +kernel)
theorem ne_5_6 : Cond.not (Cond.eq (tmS 5) (tmS 6)) ∈ flN := List.mem_of_getElem? (i := 258) (by decide +kernel)
theorem ne_5_7 : Cond.not (Cond.eq (tmS 5) (tmS 7)) ∈ flN := List.mem_of_getElem? (i := 272) (by decide +kernel)
theorem ne_5_8 : Cond.not (Cond.eq (tmS 5) (tmS 8)) ∈ flN := List.mem_of_getElem? (i := 288) (by decide +kernel)
theorem ne_5_9 : Cond.not (Cond.eq (tmS 5) (tmS 9)) ∈ flN := List.mem_of_getElem? (i := 304) (by decide +kernel)
theorem ne_5_10 : Cond.not (Cond.eq (tmS 5) (tmS 10)) ∈ flN := List.mem_of_getElem? (i := 322) (by decide +kernel)
theorem ne_5_11 : Cond.not (Cond.eq (tmS 5) (tmS 11)) ∈ flN := List.mem_of_getElem? (i := 341) (by decide +kernel)
theorem ne_5_12 : Cond.not (Cond.eq (tmS 5) (tmS 12)) ∈ flN := List.mem_of_getElem? (i := 361) (by decide +kernel)
theorem ne_5_13 : Cond.not (Cond.eq (tmS 5) (tmS 13)) ∈ flN := List.mem_of_getElem? (i := 382) (by decide +kernel)
theorem ne_5_14 : Cond.not (Cond.eq (tmS 5) (tmS 14)) ∈ flN := List.mem_of_getElem? (i := 404) (by decide +kernel)
theorem ne_5_15 : Cond.not (Cond.eq (tmS 5) (tmS 15)) ∈ flN := List.mem_of_getElem? (i := 426) (by decide +kernel)
theorem ne_5_16 : Cond.not (Cond.eq (tmS 5) (tmS 16)) ∈ flN := List.mem_of_getElem? (i := 450) (by decide +kernel)
theorem ne_5_17 : Cond.not (Cond.eq (tmS 5) (tmS 17)) ∈ flN := List.mem_of_getElem? (i := 477) (by decide +kernel)
theorem ne_5_18 : Cond.not (Cond.eq (tmS 5) (tmS 18)) ∈ flN := List.mem_of_getElem? (i := 505) (by decide +kernel)
theorem ne_5_19 : Cond.not (Cond.eq (tmS 5) (tmS 19)) ∈ flN := List.mem_of_getElem? (i := 529) (by decide +kernel)
theorem ne_5_20 : Cond.not (Cond.eq (tmS 5) (tmS 20)) ∈ flN := List.mem_of_getElem? (i := 555) (by decide +kernel)
theorem ne_5_21 : Cond.not (Cond.eq (tmS 5) (tmS 21)) ∈ flN := List.mem_of_getElem? (i := 582) (by decide +kernel)
theorem ne_5_22 : Cond.not (Cond.eq (tmS 5) (tmS 22)) ∈ flN := List.mem_of_getElem? (i := 609) (by decide +kernel)
theorem ne_6_7 : Cond.not (Cond.eq (tmS 6) (tmS 7)) ∈ flN := List.mem_of_getElem? (i := 273) (by decide +kernel)
theorem ne_6_8 : Cond.not (Cond.eq (tmS 6) (tmS 8)) ∈ flN := List.mem_of_getElem? (i := 289) (by decide +kernel)
theorem ne_6_9 : Cond.not (Cond.eq (tmS 6) (tmS 9)) ∈ flN := List.mem_of_getElem? (i := 305) (by decide +kernel)
theorem ne_6_10 : Cond.not (Cond.eq (tmS 6) (tmS 10)) ∈ flN := List.mem_of_getElem? (i := 323) (by decide +kernel)
theorem ne_6_11 : Cond.not (Cond.eq (tmS 6) (tmS 11)) ∈ flN := List.mem_of_getElem? (i := 342) (by decide +kernel)
theorem ne_6_12 : Cond.not (Cond.eq (tmS 6) (tmS 12)) ∈ flN := List.mem_of_getElem? (i := 362) (by decide +kernel)
theorem ne_6_13 : Cond.not (Cond.eq (tmS 6) (tmS 13)) ∈ flN := List.mem_of_getElem? (i := 383) (by decide +kernel)
theorem ne_6_14 : Cond.not (Cond.eq (tmS 6) (tmS 14)) ∈ flN := List.mem_of_getElem? (i := 405) (by decide +kernel)
theorem ne_6_15 : Cond.not (Cond.eq (tmS 6) (tmS 15)) ∈ flN := List.mem_of_getElem? (i := 427) (by decide +kernel)
theorem ne_6_16 : Cond.not (Cond.eq (tmS 6) (tmS 16)) ∈ flN := List.mem_of_getElem? (i := 451) (by decide +kernel)
theorem ne_6_17 : Cond.not (Cond.eq (tmS 6) (tmS 17)) ∈ flN := List.mem_of_getElem? (i := 478) (by decide +kernel)
theorem ne_6_18 : Cond.not (Cond.eq (tmS 6) (tmS 18)) ∈ flN := List.mem_of_getElem? (i := 506) (by decide +kernel)
theorem ne_6_19 : Cond.not (Cond.eq (tmS 6) (tmS 19)) ∈ flN := List.mem_of_getElem? (i := 530) (by decide +kernel)
theorem ne_6_20 : Cond.not (Cond.eq (tmS 6) (tmS 20)) ∈ flN := List.mem_of_getElem? (i := 556) (by decide +kernel)
theorem ne_6_21 : Cond.not (Cond.eq (tmS 6) (tmS 21)) ∈ flN := List.mem_of_getElem? (i := 583) (by decide +kernel)
theorem ne_6_22 : Cond.not (Cond.eq (tmS 6) (tmS 22)) ∈ flN := List.mem_of_getElem? (i := 610) (by decide +kernel)
theorem ne_7_8 : Cond.not (Cond.eq (tmS 7) (tmS 8)) ∈ flN := List.mem_of_getElem? (i := 290) (by decide +kernel)
theorem ne_7_9 : Cond.not (Cond.eq (tmS 7) (tmS 9)) ∈ flN := List.mem_of_getElem? (i := 306) (by decide +kernel)
theorem ne_7_10 : Cond.not (Cond.eq (tmS 7) (tmS 10)) ∈ flN := List.mem_of_getElem? (i := 324) (by decide +kernel)
theorem ne_7_11 : Cond.not (Cond.eq (tmS 7) (tmS 11)) ∈ flN := List.mem_of_getElem? (i := 343) (by decide +kernel)
theorem ne_7_12 : Cond.not (Cond.eq (tmS 7) (tmS 12)) ∈ flN := List.mem_of_getElem? (i := 363) (by decide +kernel)
theorem ne_7_13 : Cond.not (Cond.eq (tmS 7) (tmS 13)) ∈ flN := List.mem_of_getElem? (i := 384) (by decide +kernel)
theorem ne_7_14 : Cond.not (Cond.eq (tmS 7) (tmS 14)) ∈ flN := List.mem_of_getElem? (i := 406) (by decide +kernel)
theorem ne_7_15 : Cond.not (Cond.eq (tmS 7) (tmS 15)) ∈ flN := List.mem_of_getElem? (i := 428) (by decide +kernel)
theorem ne_7_16 : Cond.not (Cond.eq (tmS 7) (tmS 16)) ∈ flN := List.mem_of_getElem? (i := 452) (by decide +kernel)
theorem ne_7_17 : Cond.not (Cond.eq (tmS 7) (tmS 17)) ∈ flN := List.mem_of_getElem? (i := 479) (by decide +kernel)
theorem ne_7_18 : Cond.not (Cond.eq (tmS 7) (tmS 18)) ∈ flN := List.mem_of_getElem? (i := 507) (by decide +kernel)
theorem ne_7_19 : Cond.not (Cond.eq (tmS 7) (tmS 19)) ∈ flN := List.mem_of_getElem? (i := 531) (by decide +kernel)
theorem ne_7_20 : Cond.not (Cond.eq (tmS 7) (tmS 20)) ∈ flN := List.mem_of_getElem? (i := 557) (by decide +kernel)
theorem ne_7_21 : Cond.not (Cond.eq (tmS 7) (tmS 21)) ∈ flN := List.mem_of_getElem? (i := 584) (by decide +kernel)
theorem ne_7_22 : Cond.not (Cond.eq (tmS 7) (tmS 22)) ∈ flN := List.mem_of_getElem? (i := 611) (by decide +kernel)
theorem ne_8_9 : Cond.not (Cond.eq (tmS 8) (tmS 9)) ∈ flN := List.mem_of_getElem? (i := 307) (by decide +kernel)
theorem ne_8_10 : Cond.not (Cond.eq (tmS 8) (tmS 10)) ∈ flN := List.mem_of_getElem? (i := 325) (by decide +kernel)
theorem ne_8_11 : Cond.not (Cond.eq (tmS 8) (tmS 11)) ∈ flN := List.mem_of_getElem? (i := 344) (by decide +kernel)
theorem ne_8_12 : Cond.not (Cond.eq (tmS 8) (tmS 12)) ∈ flN := List.mem_of_getElem? (i := 364) (by decide +kernel)
theorem ne_8_13 : Cond.not (Cond.eq (tmS 8) (tmS 13)) ∈ flN := List.mem_of_getElem? (i := 385) (by decide +kernel)
theorem ne_8_14 : Cond.not (Cond.eq (tmS 8) (tmS 14)) ∈ flN := List.mem_of_getElem? (i := 407) (by decide +kernel)
theorem ne_8_15 : Cond.not (Cond.eq (tmS 8) (tmS 15)) ∈ flN := List.mem_of_getElem? (i := 429) (by decide +kernel)
theorem ne_8_16 : Cond.not (Cond.eq (tmS 8) (tmS 16)) ∈ flN := List.mem_of_getElem? (i := 453) (by decide +kernel)
theorem ne_8_17 : Cond.not (Cond.eq (tmS 8) (tmS 17)) ∈ flN := List.mem_of_getElem? (i := 480) (by decide +kernel)
theorem ne_8_18 : Cond.not (Cond.eq (tmS 8) (tmS 18)) ∈ flN := List.mem_of_getElem? (i := 508) (by decide +kernel)
theorem ne_8_19 : Cond.not (Cond.eq (tmS 8) (tmS 19)) ∈ flN := List.mem_of_getElem? (i := 532) (by decide +kernel)
theorem ne_8_20 : Cond.not (Cond.eq (tmS 8) (tmS 20)) ∈ flN := List.mem_of_getElem? (i := 558) (by decide +kernel)
theorem ne_8_21 : Cond.not (Cond.eq (tmS 8) (tmS 21)) ∈ flN := List.mem_of_getElem? (i := 585) (by decide +kernel)
theorem ne_8_22 : Cond.not (Cond.eq (tmS 8) (tmS 22)) ∈ flN := List.mem_of_getElem? (i := 612) (by decide +kernel)
theorem ne_9_10 : Cond.not (Cond.eq (tmS 9) (tmS 10)) ∈ flN := List.mem_of_getElem? (i := 326) (by decide +kernel)
theorem ne_9_11 : Cond.not (Cond.eq (tmS 9) (tmS 11)) ∈ flN := List.mem_of_getElem? (i := 345) (by decide +kernel)
theorem ne_9_12 : Cond.not (Cond.eq (tmS 9) (tmS 12)) ∈ flN := List.mem_of_getElem? (i := 365) (by decide +kernel)
theorem ne_9_13 : Cond.not (Cond.eq (tmS 9) (tmS 13)) ∈ flN := List.mem_of_getElem? (i := 386) (by decide +kernel)
theorem ne_9_14 : Cond.not (Cond.eq (tmS 9) (tmS 14)) ∈ flN := List.mem_of_getElem? (i := 408) (by decide +kernel)
theorem ne_9_15 : Cond.not (Cond.eq (tmS 9) (tmS 15)) ∈ flN := List.mem_of_getElem? (i := 430) (by decide +kernel)
theorem ne_9_16 : Cond.not (Cond.eq (tmS 9) (tmS 16)) ∈ flN := List.mem_of_getElem? (i := 454) (by decide +kernel)
theorem ne_9_17 : Cond.not (Cond.eq (tmS 9) (tmS 17)) ∈ flN := List.mem_of_getElem? (i := 481) (by decide +kernel)
theorem ne_9_18 : Cond.not (Cond.eq (tmS 9) (tmS 18)) ∈ flN := List.mem_of_getElem? (i := 509) (by decide +kernel)
theorem ne_9_19 : Cond.not (Cond.eq (tmS 9) (tmS 19)) ∈ flN := List.mem_of_getElem? (i := 533) (by decide +kernel)
theorem ne_9_20 : Cond.not (Cond.eq (tmS 9) (tmS 20)) ∈ flN := List.mem_of_getElem? (i := 559) (by decide +kernel)
theorem ne_9_21 : Cond.not (Cond.eq (tmS 9) (tmS 21)) ∈ flN := List.mem_of_getElem? (i := 586) (by decide +kernel)
theorem ne_9_22 : Cond.not (Cond.eq (tmS 9) (tmS 22)) ∈ flN := List.mem_of_getElem? (i := 613) (by decide +kernel)
theorem ne_10_11 : Cond.not (Cond.eq (tmS 10) (tmS 11)) ∈ flN := List.mem_of_getElem? (i := 346) (by decide +kernel)
theorem ne_10_12 : Cond.not (Cond.eq (tmS 10) (tmS 12)) ∈ flN := List.mem_of_getElem? (i := 366) (by decide +kernel)
theorem ne_10_13 : Cond.not (Cond.eq (tmS 10) (tmS 13)) ∈ flN := List.mem_of_getElem? (i := 387) (by decide +kernel)
theorem ne_10_14 : Cond.not (Cond.eq (tmS 10) (tmS 14)) ∈ flN := List.mem_of_getElem? (i := 409) (by decide +kernel)
theorem ne_10_15 : Cond.not (Cond.eq (tmS 10) (tmS 15)) ∈ flN := List.mem_of_getElem? (i := 431) (by decide +kernel)
theorem ne_10_16 : Cond.not (Cond.eq (tmS 10) (tmS 16)) ∈ flN := List.mem_of_getElem? (i := 455) (by decide +kernel)
theorem ne_10_17 : Cond.not (Cond.eq (tmS 10) (tmS 17)) ∈ flN := List.mem_of_getElem? (i := 482) (by decide +kernel)
theorem ne_10_18 : Cond.not (Cond.eq (tmS 10) (tmS 18)) ∈ flN := List.mem_of_getElem? (i := 510) (by decide +kernel)
theorem ne_10_19 : Cond.not (Cond.eq (tmS 10) (tmS 19)) ∈ flN := List.mem_of_getElem? (i := 534) (by decide +kernel)
theorem ne_10_20 : Cond.not (Cond.eq (tmS 10) (tmS 20)) ∈ flN := List.mem_of_getElem? (i := 560) (by decide +kernel)
theorem ne_10_21 : Cond.not (Cond.eq (tmS 10) (tmS 21)) ∈ flN := List.mem_of_getElem? (i := 587) (by decide +kernel)
theorem ne_10_22 : Cond.not (Cond.eq (tmS 10) (tmS 22)) ∈ flN := List.mem_of_getElem? (i := 614) (by decide +kernel)
theorem ne_11_12 : Cond.not (Cond.eq (tmS 11) (tmS 12)) ∈ flN := List.mem_of_getElem? (i := 367) (by decide +kernel)
theorem ne_11_13 : Cond.not (Cond.eq (tmS 11) (tmS 13)) ∈ flN := List.mem_of_getElem? (i := 388) (by decide +kernel)
theorem ne_11_14 : Cond.not (Cond.eq (tmS 11) (tmS 14)) ∈ flN := List.mem_of_getElem? (i := 410) (by decide +kernel)
theorem ne_11_15 : Cond.not (Cond.eq (tmS 11) (tmS 15)) ∈ flN := List.mem_of_getElem? (i := 432) (by decide +kernel)
theorem ne_11_16 : Cond.not (Cond.eq (tmS 11) (tmS 16)) ∈ flN := List.mem_of_getElem? (i := 456) (by decide +kernel)
theorem ne_11_17 : Cond.not (Cond.eq (tmS 11) (tmS 17)) ∈ flN := List.mem_of_getElem? (i := 483) (by decide +kernel)
theorem ne_11_18 : Cond.not (Cond.eq (tmS 11) (tmS 18)) ∈ flN := List.mem_of_getElem? (i := 511) (by decide +kernel)
theorem ne_11_19 : Cond.not (Cond.eq (tmS 11) (tmS 19)) ∈ flN := List.mem_of_getElem? (i := 535) (by decide +kernel)
theorem ne_11_20 : Cond.not (Cond.eq (tmS 11) (tmS 20)) ∈ flN := List.mem_of_getElem? (i := 561) (by decide +kernel)
theorem ne_11_21 : Cond.not (Cond.eq (tmS 11) (tmS 21)) ∈ flN := List.mem_of_getElem? (i := 588) (by decide +kernel)
theorem ne_11_22 : Cond.not (Cond.eq (tmS 11) (tmS 22)) ∈ flN := List.mem_of_getElem? (i := 615) (by decide +kernel)
theorem ne_12_13 : Cond.not (Cond.eq (tmS 12) (tmS 13)) ∈ flN := List.mem_of_getElem? (i := 389) (by decide +kernel)
theorem ne_12_14 : Cond.not (Cond.eq (tmS 12) (tmS 14)) ∈ flN := List.mem_of_getElem? (i := 411) (by decide +kernel)
theorem ne_12_15 : Cond.not (Cond.eq (tmS 12) (tmS 15)) ∈ flN := List.mem_of_getElem? (i := 433) (by decide +kernel)
theorem ne_12_16 : Cond.not (Cond.eq (tmS 12) (tmS 16)) ∈ flN := List.mem_of_getElem? (i := 457) (by decide +kernel)
theorem ne_12_17 : Cond.not (Cond.eq (tmS 12) (tmS 17)) ∈ flN := List.mem_of_getElem? (i := 484) (by decide +kernel)
theorem ne_12_18 : Cond.not (Cond.eq (tmS 12) (tmS 18)) ∈ flN := List.mem_of_getElem? (i := 512) (by decide +kernel)
theorem ne_12_19 : Cond.not (Cond.eq (tmS 12) (tmS 19)) ∈ flN := List.mem_of_getElem? (i := 536) (by decide +kernel)
theorem ne_12_20 : Cond.not (Cond.eq (tmS 12) (tmS 20)) ∈ flN := List.mem_of_getElem? (i := 562) (by decide +kernel)
theorem ne_12_21 : Cond.not (Cond.eq (tmS 12) (tmS 21)) ∈ flN := List.mem_of_getElem? (i := 589) (by decide +kernel)
theorem ne_12_22 : Cond.not (Cond.eq (tmS 12) (tmS 22)) ∈ flN := List.mem_of_getElem? (i := 616) (by decide +kernel)
theorem ne_13_14 : Cond.not (Cond.eq (tmS 13) (tmS 14)) ∈ flN := List.mem_of_getElem? (i := 412) (by decide +kernel)
theorem ne_13_15 : Cond.not (Cond.eq (tmS 13) (tmS 15)) ∈ flN := List.mem_of_getElem? (i := 434) (by decide +kernel)
theorem ne_13_16 : Cond.not (Cond.eq (tmS 13) (tmS 16)) ∈ flN := List.mem_of_getElem? (i := 458) (by decide +kernel)
theorem ne_13_17 : Cond.not (Cond.eq (tmS 13) (tmS 17)) ∈ flN := List.mem_of_getElem? (i := 485) (by decide +kernel)
theorem ne_13_18 : Cond.not (Cond.eq (tmS 13) (tmS 18)) ∈ flN := List.mem_of_getElem? (i := 513) (by decide +kernel)
theorem ne_13_19 : Cond.not (Cond.eq (tmS 13) (tmS 19)) ∈ flN := List.mem_of_getElem? (i := 537) (by decide +kernel)
theorem ne_13_20 : Cond.not (Cond.eq (tmS 13) (tmS 20)) ∈ flN := List.mem_of_getElem? (i := 563) (by decide +kernel)
theorem ne_13_21 : Cond.not (Cond.eq (tmS 13) (tmS 21)) ∈ flN := List.mem_of_getElem? (i := 590) (by decide +kernel)
theorem ne_13_22 : Cond.not (Cond.eq (tmS 13) (tmS 22)) ∈ flN := List.mem_of_getElem? (i := 617) (by decide +kernel)
theorem ne_14_15 : Cond.not (Cond.eq (tmS 14) (tmS 15)) ∈ flN := List.mem_of_getElem? (i := 435) (by decide +kernel)
theorem ne_14_16 : Cond.not (Cond.eq (tmS 14) (tmS 16)) ∈ flN := List.mem_of_getElem? (i := 459) (by decide +kernel)
theorem ne_14_17 : Cond.not (Cond.eq (tmS 14) (tmS 17)) ∈ flN := List.mem_of_getElem? (i := 486) (by decide +kernel)
theorem ne_14_18 : Cond.not (Cond.eq (tmS 14) (tmS 18)) ∈ flN := List.mem_of_getElem? (i := 514) (by decide +kernel)
theorem ne_14_19 : Cond.not (Cond.eq (tmS 14) (tmS 19)) ∈ flN := List.mem_of_getElem? (i := 538) (by decide +kernel)
theorem ne_14_20 : Cond.not (Cond.eq (tmS 14) (tmS 20)) ∈ flN := List.mem_of_getElem? (i := 564) (by decide +kernel)
theorem ne_14_21 : Cond.not (Cond.eq (tmS 14) (tmS 21)) ∈ flN := List.mem_of_getElem? (i := 591) (by decide +kernel)
theorem ne_14_22 : Cond.not (Cond.eq (tmS 14) (tmS 22)) ∈ flN := List.mem_of_getElem? (i := 618) (by decide +kernel)
theorem ne_15_16 : Cond.not (Cond.eq (tmS 15) (tmS 16)) ∈ flN := List.mem_of_getElem? (i := 460) (by decide +kernel)
theorem ne_15_17 : Cond.not (Cond.eq (tmS 15) (tmS 17)) ∈ flN := List.mem_of_getElem? (i := 487) (by decide +kernel)
theorem ne_15_18 : Cond.not (Cond.eq (tmS 15) (tmS 18)) ∈ flN := List.mem_of_getElem? (i := 515) (by decide +kernel)
theorem ne_15_19 : Cond.not (Cond.eq (tmS 15) (tmS 19)) ∈ flN := List.mem_of_getElem? (i := 539) (by decide +kernel)
theorem ne_15_20 : Cond.not (Cond.eq (tmS 15) (tmS 20)) ∈ flN := List.mem_of_getElem? (i := 565) (by decide +kernel)
theorem ne_15_21 : Cond.not (Cond.eq (tmS 15) (tmS 21)) ∈ flN := List.mem_of_getElem? (i := 592) (by decide +kernel)
theorem ne_15_22 : Cond.not (Cond.eq (tmS 15) (tmS 22)) ∈ flN := List.mem_of_getElem? (i := 619) (by decide +kernel)
theorem ne_16_17 : Cond.not (Cond.eq (tmS 16) (tmS 17)) ∈ flN := List.mem_of_getElem? (i := 488) (by decide +kernel)
theorem ne_16_18 : Cond.not (Cond.eq (tmS 16) (tmS 18)) ∈ flN := List.mem_of_getElem? (i := 516) (by decide +kernel)
theorem ne_16_19 : Cond.not (Cond.eq (tmS 16) (tmS 19)) ∈ flN := List.mem_of_getElem? (i := 540) (by decide +kernel)
theorem ne_16_20 : Cond.not (Cond.eq (tmS 16) (tmS 20)) ∈ flN := List.mem_of_getElem? (i := 566) (by decide +kernel)
theorem ne_16_21 : Cond.not (Cond.eq (tmS 16) (tmS 21)) ∈ flN := List.mem_of_getElem? (i := 593) (by decide +kernel)
theorem ne_16_22 : Cond.not (Cond.eq (tmS 16) (tmS 22)) ∈ flN := List.mem_of_getElem? (i := 620) (by decide +kernel)
theorem ne_17_18 : Cond.not (Cond.eq (tmS 17) (tmS 18)) ∈ flN := List.mem_of_getElem? (i := 517) (by decide +kernel)
theorem ne_17_19 : Cond.not (Cond.eq (tmS 17) (tmS 19)) ∈ flN := List.mem_of_getElem? (i := 541) (by decide +kernel)
theorem ne_17_20 : Cond.not (Cond.eq (tmS 17) (tmS 20)) ∈ flN := List.mem_of_getElem? (i := 567) (by decide +kernel)
theorem ne_17_21 : Cond.not (Cond.eq (tmS 17) (tmS 21)) ∈ flN := List.mem_of_getElem? (i := 594) (by decide +kernel)
theorem ne_17_22 : Cond.not (Cond.eq (tmS 17) (tmS 22)) ∈ flN := List.mem_of_getElem? (i := 621) (by decide +kernel)
theorem ne_18_19 : Cond.not (Cond.eq (tmS 18) (tmS 19)) ∈ flN := List.mem_of_getElem? (i := 542) (by decide +kernel)
theorem ne_18_20 : Cond.not (Cond.eq (tmS 18) (tmS 20)) ∈ flN := List.mem_of_getElem? (i := 568) (by decide +kernel)
theorem ne_18_21 : Cond.not (Cond.eq (tmS 18) (tmS 21)) ∈ flN := List.mem_of_getElem? (i := 595) (by decide +kernel)
theorem ne_18_22 : Cond.not (Cond.eq (tmS 18) (tmS 22)) ∈ flN := List.mem_of_getElem? (i := 622) (by decide +kernel)
theorem ne_19_20 : Cond.not (Cond.eq (tmS 19) (tmS 20)) ∈ flN := List.mem_of_getElem? (i := 569) (by decide +kernel)
theorem ne_19_21 : Cond.not (Cond.eq (tmS 19) (tmS 21)) ∈ flN := List.mem_of_getElem? (i := 596) (by decide +kernel)
theorem ne_19_22 : Cond.not (Cond.eq (tmS 19) (tmS 22)) ∈ flN := List.mem_of_getElem? (i := 623) (by decide +kernel)
theorem ne_20_21 : Cond.not (Cond.eq (tmS 20) (tmS 21)) ∈ flN := List.mem_of_getElem? (i := 597) (by decide +kernel)
theorem ne_20_22 : Cond.not (Cond.eq (tmS 20) (tmS 22)) ∈ flN := List.mem_of_getElem? (i := 624) (by decide +kernel)
theorem ne_21_22 : Cond.not (Cond.eq (tmS 21) (tmS 22)) ∈ flN := List.mem_of_getElem? (i := 625) (by decide +kernel)
theorem nei_0 : ∀ j, j < 23 → 0 ≠ j → Cond.not (Cond.eq (tmS 0) (tmS j)) ∈ flN ∨ Cond.not (Cond.eq (tmS j) (tmS 0)) ∈ flN := fun j hj hne => match j, hj, hne with
  | 0, _, h => absurd rfl h
  | 1, _, _ => Or.inl ne_0_1
  | 2, _, _ => Or.inl ne_0_2
  | 3, _, _ => Or.inl ne_0_3
  | 4, _, _ => Or.inl ne_0_4
  | 5, _, _ => Or.inl ne_0_5
  | 6, _, _ => Or.inl ne_0_6
  | 7, _, _ => Or.inl ne_0_7
  | 8, _, _ => Or.inl ne_0_8
  | 9, _, _ => Or.inl ne_0_9
  | 10, _, _ => Or.inl ne_0_10
  | 11, _, _ => Or.inl ne_0_11
  | 12, _, _ => Or.inl ne_0_12
  | 13, _, _ => Or.inl ne_0_13
  | 14, _, _ => Or.inl ne_0_14
  | 15, _, _ => Or.inl ne_0_15
  | 16, _, _ => Or.inl ne_0_16
  | 17, _, _ => Or.inl ne_0_17
  | 18, _, _ => Or.inl ne_0_18
  | 19, _, _ => Or.inl ne_0_19
  | 20, _, _ => Or.inl ne_0_20
  | 21, _, _ => Or.inl ne_0_21
  | 22, _, _ => Or.inl ne_0_22
  | k + 23, h, _ => absurd h (by omega)
theorem nei_1 : ∀ j, j < 23 → 1 ≠ j → Cond.not (Cond.eq (tmS 1) (tmS j)) ∈ flN ∨ Cond.not (Cond.eq (tmS j) (tmS 1)) ∈ flN := fun j hj hne => match j, hj, hne with
  | 0, _, _ => Or.inr ne_0_1
  | 1, _, h => absurd rfl h
  | 2, _, _ => Or.inl ne_1_2
  | 3, _, _ => Or.inl ne_1_3
  | 4, _, _ => Or.inl ne_1_4
  | 5, _, _ => Or.inl ne_1_5
  | 6, _, _ => Or.inl ne_1_6
  | 7, _, _ => Or.inl ne_1_7
  | 8, _, _ => Or.inl ne_1_8
  | 9, _, _ => Or.inl ne_1_9
  | 10, _, _ => Or.inl ne_1_10
  | 11, _, _ => Or.inl ne_1_11
  | 12, _, _ => Or.inl ne_1_12
  | 13, _, _ => Or.inl ne_1_13
  | 14, _, _ => Or.inl ne_1_14
  | 15, _, _ => Or.inl ne_1_15
  | 16, _, _ => Or.inl ne_1_16
  | 17, _, _ => Or.inl ne_1_17
  | 18, _, _ => Or.inl ne_1_18
  | 19, _, _ => Or.inl ne_1_19
  | 20, _, _ => Or.inl ne_1_20
  | 21, _, _ => Or.inl ne_1_21
  | 22, _, _ => Or.inl ne_1_22
  | k + 23, h, _ => absurd h (by omega)
theorem nei_2 : ∀ j, j < 23 → 2 ≠ j → Cond.not (Cond.eq (tmS 2) (tmS j)) ∈ flN ∨ Cond.not (Cond.eq (tmS j) (tmS 2)) ∈ flN := fun j hj hne => match j, hj, hne with
  | 0, _, _ => Or.inr ne_0_2
  | 1, _, _ => Or.inr ne_1_2
  | 2, _, h => absurd rfl h
  | 3, _, _ => Or.inl ne_2_3
  | 4, _, _ => Or.inl ne_2_4
  | 5, _, _ => Or.inl ne_2_5
  | 6, _, _ => Or.inl ne_2_6
  | 7, _, _ => Or.inl ne_2_7
  | 8, _, _ => Or.inl ne_2_8
  | 9, _, _ => Or.inl ne_2_9
  | 10, _, _ => Or.inl ne_2_10
  | 11, _, _ => Or.inl ne_2_11
  | 12, _, _ => Or.inl ne_2_12
  | 13, _, _ => Or.inl ne_2_13
  | 14, _, _ => Or.inl ne_2_14
  | 15, _, _ => Or.inl ne_2_15
  | 16, _, _ => Or.inl ne_2_16
  | 17, _, _ => Or.inl ne_2_17
  | 18, _, _ => Or.inl ne_2_18
  | 19, _, _ => Or.inl ne_2_19
  | 20, _, _ => Or.inl ne_2_20
  | 21, _, _ => Or.inl ne_2_21
  | 22, _, _ => Or.inl ne_2_22
  | k + 23, h, _ => absurd h (by omega)
theorem nei_3 : ∀ j, j < 23 → 3 ≠ j → Cond.not (Cond.eq (tmS 3) (tmS j)) ∈ flN ∨ Cond.not (Cond.eq (tmS j) (tmS 3)) ∈ flN := fun j hj hne => match j, hj, hne with
  | 0, _, _ => Or.inr ne_0_3
  | 1, _, _ => Or.inr ne_1_3
  | 2, _, _ => Or.inr ne_2_3
  | 3, _, h => absurd rfl h
  | 4, _, _ => Or.inl ne_3_4
  | 5, _, _ => Or.inl ne_3_5
  | 6, _, _ => Or.inl ne_3_6
  | 7, _, _ => Or.inl ne_3_7
  | 8, _, _ => Or.inl ne_3_8
  | 9, _, _ => Or.inl ne_3_9
  | 10, _, _ => Or.inl ne_3_10
  | 11, _, _ => Or.inl ne_3_11
  | 12, _, _ => Or.inl ne_3_12
  | 13, _, _ => Or.inl ne_3_13
  | 14, _, _ => Or.inl ne_3_14
  | 15, _, _ => Or.inl ne_3_15
  | 16, _, _ => Or.inl ne_3_16
  | 17, _, _ => Or.inl ne_3_17
  | 18, _, _ => Or.inl ne_3_18
  | 19, _, _ => Or.inl ne_3_19
  | 20, _, _ => Or.inl ne_3_20
  | 21, _, _ => Or.inl ne_3_21
  | 22, _, _ => Or.inl ne_3_22
  | k + 23, h, _ => absurd h (by omega)
theorem nei_4 : ∀ j, j < 23 → 4 ≠ j → Cond.not (Cond.eq (tmS 4) (tmS j)) ∈ flN ∨ Cond.not (Cond.eq (tmS j) (tmS 4)) ∈ flN := fun j hj hne => match j, hj, hne with
  | 0, _, _ => Or.inr ne_0_4
  | 1, _, _ => Or.inr ne_1_4
  | 2, _, _ => Or.inr ne_2_4
  | 3, _, _ => Or.inr ne_3_4
  | 4, _, h => absurd rfl h
  | 5, _, _ => Or.inl ne_4_5
  | 6, _, _ => Or.inl ne_4_6
  | 7, _, _ => Or.inl ne_4_7
  | 8, _, _ => Or.inl ne_4_8
  | 9, _, _ => Or.inl ne_4_9
  | 10, _, _ => Or.inl ne_4_10
  | 11, _, _ => Or.inl ne_4_11
  | 12, _, _ => Or.inl ne_4_12
  | 13, _, _ => Or.inl ne_4_13
  | 14, _, _ => Or.inl ne_4_14
  | 15, _, _ => Or.inl ne_4_15
  | 16, _, _ => Or.inl ne_4_16
  | 17, _, _ => Or.inl ne_4_17
  | 18, _, _ => Or.inl ne_4_18
  | 19, _, _ => Or.inl ne_4_19
  | 20, _, _ => Or.inl ne_4_20
  | 21, _, _ => Or.inl ne_4_21
  | 22, _, _ => Or.inl ne_4_22
  | k + 23, h, _ => absurd h (by omega)
theorem nei_5 : ∀ j, j < 23 → 5 ≠ j → Cond.not (Cond.eq (tmS 5) (tmS j)) ∈ flN ∨ Cond.not (Cond.eq (tmS j) (tmS 5)) ∈ flN := fun j hj hne => match j, hj, hne with
  | 0, _, _ => Or.inr ne_0_5
  | 1, _, _ => Or.inr ne_1_5
  | 2, _, _ => Or.inr ne_2_5
  | 3, _, _ => Or.inr ne_3_5
  | 4, _, _ => Or.inr ne_4_5
  | 5, _, h => absurd rfl h
  | 6, _, _ => Or.inl ne_5_6
  | 7, _, _ => Or.inl ne_5_7
  | 8, _, _ => Or.inl ne_5_8
  | 9, _, _ => Or.inl ne_5_9
  | 10, _, _ => Or.inl ne_5_10
  | 11, _, _ => Or.inl ne_5_11
  | 12, _, _ => Or.inl ne_5_12
  | 13, _, _ => Or.inl ne_5_13
  | 14, _, _ => Or.inl ne_5_14
  | 15, _, _ => Or.inl ne_5_15
  | 16, _, _ => Or.inl ne_5_16
  | 17, _, _ => Or.inl ne_5_17
  | 18, _, _ => Or.inl ne_5_18
  | 19, _, _ => Or.inl ne_5_19
  | 20, _, _ => Or.inl ne_5_20
  | 21, _, _ => Or.inl ne_5_21
  | 22, _, _ => Or.inl ne_5_22
  | k + 23, h, _ => absurd h (by omega)
theorem nei_6 : ∀ j, j < 23 → 6 ≠ j → Cond.not (Cond.eq (tmS 6) (tmS j)) ∈ flN ∨ Cond.not (Cond.eq (tmS j) (tmS 6)) ∈ flN := fun j hj hne => match j, hj, hne with
  | 0, _, _ => Or.inr ne_0_6
  | 1, _, _ => Or.inr ne_1_6
  | 2, _, _ => Or.inr ne_2_6
  | 3, _, _ => Or.inr ne_3_6
  | 4, _, _ => Or.inr ne_4_6
  | 5, _, _ => Or.inr ne_5_6
  | 6, _, h => absurd rfl h
  | 7, _, _ => Or.inl ne_6_7
  | 8, _, _ => Or.inl ne_6_8
  | 9, _, _ => Or.inl ne_6_9
  | 10, _, _ => Or.inl ne_6_10
  | 11, _, _ => Or.inl ne_6_11
  | 12, _, _ => Or.inl ne_6_12
  | 13, _, _ => Or.inl ne_6_13
  | 14, _, _ => Or.inl ne_6_14
  | 15, _, _ => Or.inl ne_6_15
  | 16, _, _ => Or.inl ne_6_16
  | 17, _, _ => Or.inl ne_6_17
  | 18, _, _ => Or.inl ne_6_18
  | 19, _, _ => Or.inl ne_6_19
  | 20, _, _ => Or.inl ne_6_20
  | 21, _, _ => Or.inl ne_6_21
  | 22, _, _ => Or.inl ne_6_22
  | k + 23, h, _ => absurd h (by omega)
theorem nei_7 : ∀ j, j < 23 → 7 ≠ j → Cond.not (Cond.eq (tmS 7) (tmS j)) ∈ flN ∨ Cond.not (Cond.eq (tmS j) (tmS 7)) ∈ flN := fun j hj hne => match j, hj, hne with
  | 0, _, _ => Or.inr ne_0_7
  | 1, _, _ => Or.inr ne_1_7
  | 2, _, _ => Or.inr ne_2_7
  | 3, _, _ => Or.inr ne_3_7
  | 4, _, _ => Or.inr ne_4_7
  | 5, _, _ => Or.inr ne_5_7
  | 6, _, _ => Or.inr ne_6_7
  | 7, _, h => absurd rfl h
  | 8, _, _ => Or.inl ne_7_8
  | 9, _, _ => Or.inl ne_7_9
  | 10, _, _ => Or.inl ne_7_10
  | 11, _, _ => Or.inl ne_7_11
  | 12, _, _ => Or.inl ne_7_12
  | 13, _, _ => Or.inl ne_7_13
  | 14, _, _ => Or.inl ne_7_14
  | 15, _, _ => Or.inl ne_7_15
  | 16, _, _ => Or.inl ne_7_16
  | 17, _, _ => Or.inl ne_7_17
  | 18, _, _ => Or.inl ne_7_18
  | 19, _, _ => Or.inl ne_7_19
  | 20, _, _ => Or.inl ne_7_20
  | 21, _, _ => Or.inl ne_7_21
  | 22, _, _ => Or.inl ne_7_22
  | k + 23, h, _ => absurd h (by omega)
theorem nei_8 : ∀ j, j < 23 → 8 ≠ j → Cond.not (Cond.eq (tmS 8) (tmS j)) ∈ flN ∨ Cond.not (Cond.eq (tmS j) (tmS 8)) ∈ flN := fun j hj hne => match j, hj, hne with
  | 0, _, _ => Or.inr ne_0_8
  | 1, _, _ => Or.inr ne_1_8
  | 2, _, _ => Or.inr ne_2_8
  | 3, _, _ => Or.inr ne_3_8
  | 4, _, _ => Or.inr ne_4_8
  | 5, _, _ => Or.inr ne_5_8
  | 6, _, _ => Or.inr ne_6_8
  | 7, _, _ => Or.inr ne_7_8
  | 8, _, h => absurd rfl h
  | 9, _, _ => Or.inl ne_8_9
  | 10, _, _ => Or.inl ne_8_10
  | 11, _, _ => Or.inl ne_8_11
  | 12, _, _ => Or.inl ne_8_12
  | 13, _, _ => Or.inl ne_8_13
  | 14, _, _ => Or.inl ne_8_14
  | 15, _, _ => Or.inl ne_8_15
  | 16, _, _ => Or.inl ne_8_16
  | 17, _, _ => Or.inl ne_8_17
  | 18, _, _ => Or.inl ne_8_18
  | 19, _, _ => Or.inl ne_8_19
  | 20, _, _ => Or.inl ne_8_20
  | 21, _, _ => Or.inl ne_8_21
  | 22, _, _ => Or.inl ne_8_22
  | k + 23, h, _ => absurd h (by omega)
theorem nei_9 : ∀ j, j < 23 → 9 ≠ j → Cond.not (Cond.eq (tmS 9) (tmS j)) ∈ flN ∨ Cond.not (Cond.eq (tmS j) (tmS 9)) ∈ flN := fun j hj hne => match j, hj, hne with
  | 0, _, _ => Or.inr ne_0_9
  | 1, _, _ => Or.inr ne_1_9
  | 2, _, _ => Or.inr ne_2_9
  | 3, _, _ => Or.inr ne_3_9
  | 4, _, _ => Or.inr ne_4_9
  | 5, _, _ => Or.inr ne_5_9
  | 6, _, _ => Or.inr ne_6_9
  | 7, _, _ => Or.inr ne_7_9
  | 8, _, _ => Or.inr ne_8_9
  | 9, _, h => absurd rfl h
  | 10, _, _ => Or.inl ne_9_10
  | 11, _, _ => Or.inl ne_9_11
  | 12, _, _ => Or.inl ne_9_12
  | 13, _, _ => Or.inl ne_9_13
  | 14, _, _ => Or.inl ne_9_14
  | 15, _, _ => Or.inl ne_9_15
  | 16, _, _ => Or.inl ne_9_16
  | 17, _, _ => Or.inl ne_9_17
  | 18, _, _ => Or.inl ne_9_18
  | 19, _, _ => Or.inl ne_9_19
  | 20, _, _ => Or.inl ne_9_20
  | 21, _, _ => Or.inl ne_9_21
  | 22, _, _ => Or.inl ne_9_22
  | k + 23, h, _ => absurd h (by omega)
theorem nei_10 : ∀ j, j < 23 → 10 ≠ j → Cond.not (Cond.eq (tmS 10) (tmS j)) ∈ flN ∨ Cond.not (Cond.eq (tmS j) (tmS 10)) ∈ flN := fun j hj hne => match j, hj, hne with
  | 0, _, _ => Or.inr ne_0_10
  | 1, _, _ => Or.inr ne_1_10
  | 2, _, _ => Or.inr ne_2_10
  | 3, _, _ => Or.inr ne_3_10
  | 4, _, _ => Or.inr ne_4_10
  | 5, _, _ => Or.inr ne_5_10
  | 6, _, _ => Or.inr ne_6_10
  | 7, _, _ => Or.inr ne_7_10
  | 8, _, _ => Or.inr ne_8_10
  | 9, _, _ => Or.inr ne_9_10
  | 10, _, h => absurd rfl h
  | 11, _, _ => Or.inl ne_10_11
  | 12, _, _ => Or.inl ne_10_12
  | 13, _, _ => Or.inl ne_10_13
  | 14, _, _ => Or.inl ne_10_14
  | 15, _, _ => Or.inl ne_10_15
  | 16, _, _ => Or.inl ne_10_16
  | 17, _, _ => Or.inl ne_10_17
  | 18, _, _ => Or.inl ne_10_18
  | 19, _, _ => Or.inl ne_10_19
  | 20, _, _ => Or.inl ne_10_20
  | 21, _, _ => Or.inl ne_10_21
  | 22, _, _ => Or.inl ne_10_22
  | k + 23, h, _ => absurd h (by omega)
theorem nei_11 : ∀ j, j < 23 → 11 ≠ j → Cond.not (Cond.eq (tmS 11) (tmS j)) ∈ flN ∨ Cond.not (Cond.eq (tmS j) (tmS 11)) ∈ flN := fun j hj hne => match j, hj, hne with
  | 0, _, _ => Or.inr ne_0_11
  | 1, _, _ => Or.inr ne_1_11
  | 2, _, _ => Or.inr ne_2_11
  | 3, _, _ => Or.inr ne_3_11
  | 4, _, _ => Or.inr ne_4_11
  | 5, _, _ => Or.inr ne_5_11
  | 6, _, _ => Or.inr ne_6_11
  | 7, _, _ => Or.inr ne_7_11
  | 8, _, _ => Or.inr ne_8_11
  | 9, _, _ => Or.inr ne_9_11
  | 10, _, _ => Or.inr ne_10_11
  | 11, _, h => absurd rfl h
  | 12, _, _ => Or.inl ne_11_12
  | 13, _, _ => Or.inl ne_11_13
  | 14, _, _ => Or.inl ne_11_14
  | 15, _, _ => Or.inl ne_11_15
  | 16, _, _ => Or.inl ne_11_16
  | 17, _, _ => Or.inl ne_11_17
  | 18, _, _ => Or.inl ne_11_18
  | 19, _, _ => Or.inl ne_11_19
  | 20, _, _ => Or.inl ne_11_20
  | 21, _, _ => Or.inl ne_11_21
  | 22, _, _ => Or.inl ne_11_22
  | k + 23, h, _ => absurd h (by omega)
theorem nei_12 : ∀ j, j < 23 → 12 ≠ j → Cond.not (Cond.eq (tmS 12) (tmS j)) ∈ flN ∨ Cond.not (Cond.eq (tmS j) (tmS 12)) ∈ flN := fun j hj hne => match j, hj, hne with
  | 0, _, _ => Or.inr ne_0_12
  | 1, _, _ => Or.inr ne_1_12
  | 2, _, _ => Or.inr ne_2_12
  | 3, _, _ => Or.inr ne_3_12
  | 4, _, _ => Or.inr ne_4_12
  | 5, _, _ => Or.inr ne_5_12
  | 6, _, _ => Or.inr ne_6_12
  | 7, _, _ => Or.inr ne_7_12
  | 8, _, _ => Or.inr ne_8_12
  | 9, _, _ => Or.inr ne_9_12
  | 10, _, _ => Or.inr ne_10_12
  | 11, _, _ => Or.inr ne_11_12
  | 12, _, h => absurd rfl h
  | 13, _, _ => Or.inl ne_12_13
  | 14, _, _ => Or.inl ne_12_14
  | 15, _, _ => Or.inl ne_12_15
  | 16, _, _ => Or.inl ne_12_16
  | 17, _, _ => Or.inl ne_12_17
  | 18, _, _ => Or.inl ne_12_18
  | 19, _, _ => Or.inl ne_12_19
  | 20, _, _ => Or.inl ne_12_20
  | 21, _, _ => Or.inl ne_12_21
  | 22, _, _ => Or.inl ne_12_22
  | k + 23, h, _ => absurd h (by omega)
theorem nei_13 : ∀ j, j < 23 → 13 ≠ j → Cond.not (Cond.eq (tmS 13) (tmS j)) ∈ flN ∨ Cond.not (Cond.eq (tmS j) (tmS 13)) ∈ flN := fun j hj hne => match j, hj, hne with
  | 0, _, _ => Or.inr ne_0_13
  | 1, _, _ => Or.inr ne_1_13
  | 2, _, _ => Or.inr ne_2_13
  | 3, _, _ => Or.inr ne_3_13
  | 4, _, _ => Or.inr ne_4_13
  | 5, _, _ => Or.inr ne_5_13
  | 6, _, _ => Or.inr ne_6_13
  | 7, _, _ => Or.inr ne_7_13
  | 8, _, _ => Or.inr ne_8_13
  | 9, _, _ => Or.inr ne_9_13
  | 10, _, _ => Or.inr ne_10_13
  | 11, _, _ => Or.inr ne_11_13
  | 12, _, _ => Or.inr ne_12_13
  | 13, _, h => absurd rfl h
  | 14, _, _ => Or.inl ne_13_14
  | 15, _, _ => Or.inl ne_13_15
  | 16, _, _ => Or.inl ne_13_16
  | 17, _, _ => Or.inl ne_13_17
  | 18, _, _ => Or.inl ne_13_18
  | 19, _, _ => Or.inl ne_13_19
  | 20, _, _ => Or.inl ne_13_20
  | 21, _, _ => Or.inl ne_13_21
  | 22, _, _ => Or.inl ne_13_22
  | k + 23, h, _ => absurd h (by omega)
theorem nei_14 : ∀ j, j < 23 → 14 ≠ j → Cond.not (Cond.eq (tmS 14) (tmS j)) ∈ flN ∨ Cond.not (Cond.eq (tmS j) (tmS 14)) ∈ flN := fun j hj hne => match j, hj, hne with
  | 0, _, _ => Or.inr ne_0_14
  | 1, _, _ => Or.inr ne_1_14
  | 2, _, _ => Or.inr ne_2_14
  | 3, _, _ => Or.inr ne_3_14
  | 4, _, _ => Or.inr ne_4_14
  | 5, _, _ => Or.inr ne_5_14
  | 6, _, _ => Or.inr ne_6_14
  | 7, _, _ => Or.inr ne_7_14
  | 8, _, _ => Or.inr ne_8_14
  | 9, _, _ => Or.inr ne_9_14
  | 10, _, _ => Or.inr ne_10_14
  | 11, _, _ => Or.inr ne_11_14
  | 12, _, _ => Or.inr ne_12_14
  | 13, _, _ => Or.inr ne_13_14
  | 14, _, h => absurd rfl h
  | 15, _, _ => Or.inl ne_14_15
  | 16, _, _ => Or.inl ne_14_16
  | 17, _, _ => Or.inl ne_14_17
  | 18, _, _ => Or.inl ne_14_18
  | 19, _, _ => Or.inl ne_14_19
  | 20, _, _ => Or.inl ne_14_20
  | 21, _, _ => Or.inl ne_14_21
  | 22, _, _ => Or.inl ne_14_22
  | k + 23, h, _ => absurd h (by omega)
theorem nei_15 : ∀ j, j < 23 → 15 ≠ j → Cond.not (Cond.eq (tmS 15) (tmS j)) ∈ flN ∨ Cond.not (Cond.eq (tmS j) (tmS 15)) ∈ flN := fun j hj hne => match j, hj, hne with
  | 0, _, _ => Or.inr ne_0_15
  | 1, _, _ => Or.inr ne_1_15
  | 2, _, _ => Or.inr ne_2_15
  | 3, _, _ => Or.inr ne_3_15
  | 4, _, _ => Or.inr ne_4_15
  | 5, _, _ => Or.inr ne_5_15
  | 6, _, _ => Or.inr ne_6_15
  | 7, _, _ => Or.inr ne_7_15
  | 8, _, _ => Or.inr ne_8_15
  | 9, _, _ => Or.inr ne_9_15
  | 10, _, _ => Or.inr ne_10_15
  | 11, _, _ => Or.inr ne_11_15
  | 12, _, _ => Or.inr ne_12_15
  | 13, _, _ => Or.inr ne_13_15
  | 14, _, _ => Or.inr ne_14_15
  | 15, _, h => absurd rfl h
  | 16, _, _ => Or.inl ne_15_16
  | 17, _, _ => Or.inl ne_15_17
  | 18, _, _ => Or.inl ne_15_18
  | 19, _, _ => Or.inl ne_15_19
  | 20, _, _ => Or.inl ne_15_20
  | 21, _, _ => Or.inl ne_15_21
  | 22, _, _ => Or.inl ne_15_22
  | k + 23, h, _ => absurd h (by omega)
theorem nei_16 : ∀ j, j < 23 → 16 ≠ j → Cond.not (Cond.eq (tmS 16) (tmS j)) ∈ flN ∨ Cond.not (Cond.eq (tmS j) (tmS 16)) ∈ flN := fun j hj hne => match j, hj, hne with
  | 0, _, _ => Or.inr ne_0_16
  | 1, _, _ => Or.inr ne_1_16
  | 2, _, _ => Or.inr ne_2_16
  | 3, _, _ => Or.inr ne_3_16
  | 4, _, _ => Or.inr ne_4_16
  | 5, _, _ => Or.inr ne_5_16
  | 6, _, _ => Or.inr ne_6_16
  | 7, _, _ => Or.inr ne_7_16
  | 8, _, _ => Or.inr ne_8_16
  | 9, _, _ => Or.inr ne_9_16
  | 10, _, _ => Or.inr ne_10_16
  | 11, _, _ => Or.inr ne_11_16
  | 12, _, _ => Or.inr ne_12_16
  | 13, _, _ => Or.inr ne_13_16
  | 14, _, _ => Or.inr ne_14_16
  | 15, _, _ => Or.inr ne_15_16
  | 16, _, h => absurd rfl h
  | 17, _, _ => Or.inl ne_16_17
  | 18, _, _ => Or.inl ne_16_18
  | 19, _, _ => Or.inl ne_16_19
  | 20, _, _ => Or.inl ne_16_20
  | 21, _, _ => Or.inl ne_16_21
  | 22, _, _ => Or.inl ne_16_22
  | k + 23, h, _ => absurd h (by omega)
theorem nei_17 : ∀ j, j < 23 → 17 ≠ j → Cond.not (Cond.eq (tmS 17) (tmS j)) ∈ flN ∨ Cond.not (Cond.eq (tmS j) (tmS 17)) ∈ flN := fun j hj hne => match j, hj, hne with
  | 0, _, _ => Or.inr ne_0_17
  | 1, _, _ => Or.inr ne_1_17
  | 2, _, _ => Or.inr ne_2_17
  | 3, _, _ => Or.inr ne_3_17
  | 4, _, _ => Or.inr ne_4_17
  | 5, _, _ => Or.inr ne_5_17
  | 6, _, _ => Or.inr ne_6_17
  | 7, _, _ => Or.inr ne_7_17
  | 8, _, _ => Or.inr ne_8_17
  | 9, _, _ => Or.inr ne_9_17
  | 10, _, _ => Or.inr ne_10_17
  | 11, _, _ => Or.inr ne_11_17
  | 12, _, _ => Or.inr ne_12_17
  | 13, _, _ => Or.inr ne_13_17
  | 14, _, _ => Or.inr ne_14_17
  | 15, _, _ => Or.inr ne_15_17
  | 16, _, _ => Or.inr ne_16_17
  | 17, _, h => absurd rfl h
  | 18, _, _ => Or.inl ne_17_18
  | 19, _, _ => Or.inl ne_17_19
  | 20, _, _ => Or.inl ne_17_20
  | 21, _, _ => Or.inl ne_17_21
  | 22, _, _ => Or.inl ne_17_22
  | k + 23, h, _ => absurd h (by omega)
theorem nei_18 : ∀ j, j < 23 → 18 ≠ j → Cond.not (Cond.eq (tmS 18) (tmS j)) ∈ flN ∨ Cond.not (Cond.eq (tmS j) (tmS 18)) ∈ flN := fun j hj hne => match j, hj, hne with
  | 0, _, _ => Or.inr ne_0_18
  | 1, _, _ => Or.inr ne_1_18
  | 2, _, _ => Or.inr ne_2_18
  | 3, _, _ => Or.inr ne_3_18
  | 4, _, _ => Or.inr ne_4_18
  | 5, _, _ => Or.inr ne_5_18
  | 6, _, _ => Or.inr ne_6_18
  | 7, _, _ => Or.inr ne_7_18
  | 8, _, _ => Or.inr ne_8_18
  | 9, _, _ => Or.inr ne_9_18
  | 10, _, _ => Or.inr ne_10_18
  | 11, _, _ => Or.inr ne_11_18
  | 12, _, _ => Or.inr ne_12_18
  | 13, _, _ => Or.inr ne_13_18
  | 14, _, _ => Or.inr ne_14_18
  | 15, _, _ => Or.inr ne_15_18
  | 16, _, _ => Or.inr ne_16_18
  | 17, _, _ => Or.inr ne_17_18
  | 18, _, h => absurd rfl h
  | 19, _, _ => Or.inl ne_18_19
  | 20, _, _ => Or.inl ne_18_20
  | 21, _, _ => Or.inl ne_18_21
  | 22, _, _ => Or.inl ne_18_22
  | k + 23, h, _ => absurd h (by omega)
theorem nei_19 : ∀ j, j < 23 → 19 ≠ j → Cond.not (Cond.eq (tmS 19) (tmS j)) ∈ flN ∨ Cond.not (Cond.eq (tmS j) (tmS 19)) ∈ flN := fun j hj hne => match j, hj, hne with
  | 0, _, _ => Or.inr ne_0_19
  | 1, _, _ => Or.inr ne_1_19
  | 2, _, _ => Or.inr ne_2_19
  | 3, _, _ => Or.inr ne_3_19
  | 4, _, _ => Or.inr ne_4_19
  | 5, _, _ => Or.inr ne_5_19
  | 6, _, _ => Or.inr ne_6_19
  | 7, _, _ => Or.inr ne_7_19
  | 8, _, _ => Or.inr ne_8_19
  | 9, _, _ => Or.inr ne_9_19
  | 10, _, _ => Or.inr ne_10_19
  | 11, _, _ => Or.inr ne_11_19
  | 12, _, _ => Or.inr ne_12_19
  | 13, _, _ => Or.inr ne_13_19
  | 14, _, _ => Or.inr ne_14_19
  | 15, _, _ => Or.inr ne_15_19
  | 16, _, _ => Or.inr ne_16_19
  | 17, _, _ => Or.inr ne_17_19
  | 18, _, _ => Or.inr ne_18_19
  | 19, _, h => absurd rfl h
  | 20, _, _ => Or.inl ne_19_20
  | 21, _, _ => Or.inl ne_19_21
  | 22, _, _ => Or.inl ne_19_22
  | k + 23, h, _ => absurd h (by omega)
theorem nei_20 : ∀ j, j < 23 → 20 ≠ j → Cond.not (Cond.eq (tmS 20) (tmS j)) ∈ flN ∨ Cond.not (Cond.eq (tmS j) (tmS 20)) ∈ flN := fun j hj hne => match j, hj, hne with
  | 0, _, _ => Or.inr ne_0_20
  | 1, _, _ => Or.inr ne_1_20
  | 2, _, _ => Or.inr ne_2_20
  | 3, _, _ => Or.inr ne_3_20
  | 4, _, _ => Or.inr ne_4_20
  | 5, _, _ => Or.inr ne_5_20
  | 6, _, _ => Or.inr ne_6_20
  | 7, _, _ => Or.inr ne_7_20
  | 8, _, _ => Or.inr ne_8_20
  | 9, _, _ => Or.inr ne_9_20
  | 10, _, _ => Or.inr ne_10_20
  | 11, _, _ => Or.inr ne_11_20
  | 12, _, _ => Or.inr ne_12_20
  | 13, _, _ => Or.inr ne_13_20
  | 14, _, _ => Or.inr ne_14_20
  | 15, _, _ => Or.inr ne_15_20
  | 16, _, _ => Or.inr ne_16_20
  | 17, _, _ => Or.inr ne_17_20
  | 18, _, _ => Or.inr ne_18_20
  | 19, _, _ => Or.inr ne_19_20
  | 20, _, h => absurd rfl h
  | 21, _, _ => Or.inl ne_20_21
  | 22, _, _ => Or.inl ne_20_22
  | k + 23, h, _ => absurd h (by omega)
theorem nei_21 : ∀ j, j < 23 → 21 ≠ j → Cond.not (Cond.eq (tmS 21) (tmS j)) ∈ flN ∨ Cond.not (Cond.eq (tmS j) (tmS 21)) ∈ flN := fun j hj hne => match j, hj, hne with
  | 0, _, _ => Or.inr ne_0_21
  | 1, _, _ => Or.inr ne_1_21
  | 2, _, _ => Or.inr ne_2_21
  | 3, _, _ => Or.inr ne_3_21
  | 4, _, _ => Or.inr ne_4_21
  | 5, _, _ => Or.inr ne_5_21
  | 6, _, _ => Or.inr ne_6_21
  | 7, _, _ => Or.inr ne_7_21
  | 8, _, _ => Or.inr ne_8_21
  | 9, _, _ => Or.inr ne_9_21
  | 10, _, _ => Or.inr ne_10_21
  | 11, _, _ => Or.inr ne_11_21
  | 12, _, _ => Or.inr ne_12_21
  | 13, _, _ => Or.inr ne_13_21
  | 14, _, _ => Or.inr ne_14_21
  | 15, _, _ => Or.inr ne_15_21
  | 16, _, _ => Or.inr ne_16_21
  | 17, _, _ => Or.inr ne_17_21
  | 18, _, _ => Or.inr ne_18_21
  | 19, _, _ => Or.inr ne_19_21
  | 20, _, _ => Or.inr ne_20_21
  | 21, _, h => absurd rfl h
  | 22, _, _ => Or.inl ne_21_22
  | k + 23, h, _ => absurd h (by omega)
theorem nei_22 : ∀ j, j < 23 → 22 ≠ j → Cond.not (Cond.eq (tmS 22) (tmS j)) ∈ flN ∨ Cond.not (Cond.eq (tmS j) (tmS 22)) ∈ flN := fun j hj hne => match j, hj, hne with
  | 0, _, _ => Or.inr ne_0_22
  | 1, _, _ => Or.inr ne_1_22
  | 2, _, _ => Or.inr ne_2_22
  | 3, _, _ => Or.inr ne_3_22
  | 4, _, _ => Or.inr ne_4_22
  | 5, _, _ => Or.inr ne_5_22
  | 6, _, _ => Or.inr ne_6_22
  | 7, _, _ => Or.inr ne_7_22
  | 8, _, _ => Or.inr ne_8_22
  | 9, _, _ => Or.inr ne_9_22
  | 10, _, _ => Or.inr ne_10_22
  | 11, _, _ => Or.inr ne_11_22
  | 12, _, _ => Or.inr ne_12_22
  | 13, _, _ => Or.inr ne_13_22
  | 14, _, _ => Or.inr ne_14_22
  | 15, _, _ => Or.inr ne_15_22
  | 16, _, _ => Or.inr ne_16_22
  | 17, _, _ => Or.inr ne_17_22
  | 18, _, _ => Or.inr ne_18_22
  | 19, _, _ => Or.inr ne_19_22
  | 20, _, _ => Or.inr ne_20_22
  | 21, _, _ => Or.inr ne_21_22
  | 22, _, h => absurd rfl h
  | k + 23, h, _ => absurd h (by omega)
theorem en_ne : ∀ i, i < 23 → ∀ j, j < 23 → i ≠ j → Cond.not (Cond.eq (tmS i) (tmS j)) ∈ flN ∨ Cond.not (Cond.eq (tmS j) (tmS i)) ∈ flN := fun i hi => match i, hi with
  | 0, _ => nei_0
  | 1, _ => nei_1
  | 2, _ => nei_2
  | 3, _ => nei_3
  | 4, _ => nei_4
  | 5, _ => nei_5
  | 6, _ => nei_6
  | 7, _ => nei_7
  | 8, _ => nei_8
  | 9, _ => nei_9
  | 10, _ => nei_10
  | 11, _ => nei_11
  | 12, _ => nei_12
  | 13, _ => nei_13
  | 14, _ => nei_14
  | 15, _ => nei_15
  | 16, _ => nei_16
  | 17, _ => nei_17
  | 18, _ => nei_18
  | 19, _ => nei_19
  | 20, _ => nei_20
  | 21, _ => nei_21
  | 22, _ => nei_22
  | k + 23, h => absurd h (by omega)
