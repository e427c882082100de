theorem wv_val : Cond.fieldLink RJ0 9 "java/lang/String" "value" "[B" ∈ gd_tbl := gd_t1 1744 (by decide +kernel) (by decide +kernel)
theorem wv_cod : Cond.fieldLink RJ0 15 "java/lang/String" "coder" "B" ∈ gd_tbl := gd_t1 1745 (by decide +kernel) (by decide +kernel)
theorem wv_cs : Cond.fieldLink RJ0 38 "java/lang/String" "COMPACT_STRINGS" "Z" ∈ gd_tbl := gd_t1 482 (by decide +kernel) (by decide +kernel)
theorem wv_si : Cond.fieldLink RJ0 1053 "jdk/internal/util/Preconditions" "SIOOBE_FORMATTER" "Ljava/util/function/BiFunction;" ∈ gd_tbl := gd_t1 498 (by decide +kernel) (by decide +kernel)
theorem wn_J3 : Cond.initialized RJ3 ∈ gd_tbl := gd_t1 16 (by decide +kernel) (by decide +kernel)
theorem wc_J3_checkIndex_8e157 : Cond.code yJ3_checkIndex_8e157 cJ3_checkIndex_8e157 3 (some .int) ∈ gd_tbl := gd_t1 502 (by decide +kernel) (by decide +kernel)
theorem wt_J3_checkIndex_8e157 : Cond.static yJ3_checkIndex_8e157 ∈ gd_tbl := gd_t1 501 (by decide +kernel) (by decide +kernel)
theorem wc_J0_checkIndex_df160 : Cond.code yJ0_checkIndex_df160 cJ0_checkIndex_df160 2 none ∈ gd_tbl := gd_t1 497 (by decide +kernel) (by decide +kernel)
theorem wt_J0_checkIndex_df160 : Cond.static yJ0_checkIndex_df160 ∈ gd_tbl := gd_t1 496 (by decide +kernel) (by decide +kernel)
theorem ml_J0_1059 : MLs RJ0 1059 yJ3_checkIndex_8e157 cJ3_checkIndex_8e157 3 (some .int) 3 := ⟨⟨gd_t1 500 (by decide +kernel) (by decide +kernel), wn_J3, wc_J3_checkIndex_8e157, by decide, by decide, by decide +kernel⟩, wt_J3_checkIndex_8e157⟩
theorem ml_J1_9 : MLs RJ1 9 yJ0_checkIndex_df160 cJ0_checkIndex_df160 2 none 2 := ⟨⟨gd_t1 495 (by decide +kernel) (by decide +kernel), wn_J0, wc_J0_checkIndex_df160, by decide, by decide, by decide +kernel⟩, wt_J0_checkIndex_df160⟩
def it_X0_leadsTo : List (Nat × Instr × Nat × Nat) := [(0, .iload_n 1, 1, 1), (1, .istore_n 3, 1, 2), (2, .iconst 0, 1, 3), (3, .istore 4, 2, 5), (5, .iload 4, 2, 7), (7, .bipush 6, 2, 9), (9, .if_icmp .ge 25, 3, 12), (12, .iload_n 3, 1, 13), (13, .ifCond .lt 21, 3, 16), (16, .iload_n 3, 1, 17), (17, .iload_n 2, 1, 18), (18, .if_icmp .ge 16, 3, 21), (21, .aload_n 0, 1, 22), (22, .getfield 9, 3, 25), (25, .iload_n 3, 1, 26), (26, .iaload, 1, 27), (27, .istore_n 3, 1, 28), (28, .iinc 4 1, 3, 31), (31, .goto (-26), 3, 34), (34, .iload_n 3, 1, 35), (35, .iload_n 2, 1, 36), (36, .if_icmp .ne 7, 3, 39), (39, .iconst 1, 1, 40), (40, .goto 4, 3, 43), (43, .iconst 0, 1, 44), (44, .ireturn, 1, 45)]
theorem id_X0_leadsTo : ∀ q ∈ it_X0_leadsTo, decode cX0_leadsTo q.1 = .ok (q.2.1, q.2.2.1) ∧ q.1 + q.2.2.1 = q.2.2.2 := by decide +kernel
theorem dc_X0_leadsTo {pc : Nat} {i : Instr} {n pc' : Nat} (j : Nat) (h : it_X0_leadsTo[j]? = some (pc, i, n, pc')) : Dc cX0_leadsTo pc i n pc' := dc_of id_X0_leadsTo j h
abbrev rm_X0_leadsTo : Room := { frames := 0, cells := 0, slots := 0, locals := 0 }
def b_X0_leadsTo_44    (s0 : Int32) (σ : MS) : Option (Int32) := chk (s0 = 0 ∨ s0 = 1) (some s0)
set_option maxHeartbeats 4000000 in
set_option maxRecDepth 20000 in
theorem c_X0_leadsTo_44 {X : CX} {Ω : OM} (hX : CF X Ω RX0 cX0_leadsTo 5 (some .boolean) rm_X0_leadsTo) (hO : OKO Ω) (hΩ : oSH Ω = SHX)   (σ : MS)   (s0 : Int32)   : GE X Ω 5 0 0 (emPI σ) 0 0 44 [] [.int s0] σ (b_X0_leadsTo_44  s0 σ) := by
  unfold b_X0_leadsTo_44
  refine g_chk (fun hc7 => ?_)
  exact g_iret hX (dc_X0_leadsTo 25 rfl) (nz_bool hc7).1 rfl (Nat.le_refl _) (Nat.le_refl _)
def b_X0_leadsTo_34    (y2 : Int32) (y3 : Int32) (σ : MS) : Option (Int32) := (if y3 = y2 then (b_X0_leadsTo_44 ((1 : Int32)) σ) else (b_X0_leadsTo_44 ((0 : Int32)) σ))
set_option maxHeartbeats 4000000 in
set_option maxRecDepth 20000 in
theorem c_X0_leadsTo_34 {X : CX} {Ω : OM} (hX : CF X Ω RX0 cX0_leadsTo 5 (some .boolean) rm_X0_leadsTo) (hO : OKO Ω) (hΩ : oSH Ω = SHX)   (σ : MS)   (y2 : Int32) (y3 : Int32)   : GE X Ω 5 0 0 (emPI σ) 0 0 34 [(2, .int y2), (3, .int y3)] [] σ (b_X0_leadsTo_34  y2 y3 σ) := by
  unfold b_X0_leadsTo_34
  refine g_iload_n hX (dc_X0_leadsTo 19 rfl) rfl 1 rfl ?_
  refine g_iload_n hX (dc_X0_leadsTo 20 rfl) rfl 0 rfl ?_
  refine g_icmp_ne (tgt := 43) hX (dc_X0_leadsTo 21 rfl) (by decide) (fun h8 => ?_) (fun h8 => ?_)
  · refine g_iconst (w := (1 : Int32)) hX (dc_X0_leadsTo 22 rfl) (by decide) ?_
    refine g_goto (tgt := 44) hX (dc_X0_leadsTo 23 rfl) (by decide) ?_
    exact g_sub [] rfl (c_X0_leadsTo_44 hX hO hΩ σ ((1 : Int32)))
  · refine g_iconst (w := (0 : Int32)) hX (dc_X0_leadsTo 24 rfl) (by decide) ?_
    exact g_sub [] rfl (c_X0_leadsTo_44 hX hO hΩ σ ((0 : Int32)))
def b_X0_leadsTo_5   : Nat → Int32 → Int32 → Int32 → MS → Option (Int32)
  | 0, _, _, _, _ => none
  | n + 1, y2, y3, y4, σ => (if (6 : Int32) ≤ y4 then (b_X0_leadsTo_34 (y2) (y3) σ) else (if y3 < 0 then (b_X0_leadsTo_34 (y2) (y3) σ) else (if y2 ≤ y3 then (b_X0_leadsTo_34 (y2) (y3) σ) else chk (inb y3 6) (((b_X0_leadsTo_5  n) (y2) ((sI σ 53 (ix y3))) ((y4 + (1 : Int32))) σ)))))
set_option maxHeartbeats 4000000 in
set_option maxRecDepth 20000 in
theorem c_X0_leadsTo_5 {X : CX} {Ω : OM} (hX : CF X Ω RX0 cX0_leadsTo 5 (some .boolean) rm_X0_leadsTo) (hO : OKO Ω) (hΩ : oSH Ω = SHX)   (σ : MS)  : ∀ (n : Nat) (y2 : Int32) (y3 : Int32) (y4 : Int32)  , GE X Ω 5 0 0 (emPI σ) 0 0 5 [(0, .ref 52), (2, .int y2), (3, .int y3), (4, .int y4)] [] σ (b_X0_leadsTo_5  n y2 y3 y4 σ)
  | 0, _, _, _ => g_none
  | n + 1, y2, y3, y4 => by
    have hk5 := c_X0_leadsTo_5 hX hO hΩ  σ n
    unfold b_X0_leadsTo_5
    refine g_iload hX (dc_X0_leadsTo 4 rfl) 3 rfl ?_
    refine g_bipush (w := (6 : Int32)) hX (dc_X0_leadsTo 5 rfl) (by decide) ?_
    refine g_icmp_ge (tgt := 34) hX (dc_X0_leadsTo 6 rfl) (by decide) (fun h9 => ?_) (fun h9 => ?_)
    · exact g_sub [1, 2] rfl (c_X0_leadsTo_34 hX hO hΩ σ (y2) (y3))
    · refine g_iload_n hX (dc_X0_leadsTo 7 rfl) rfl 2 rfl ?_
      refine g_if_lt (tgt := 34) hX (dc_X0_leadsTo 8 rfl) (by decide) (fun h10 => ?_) (fun h10 => ?_)
      · exact g_sub [1, 2] rfl (c_X0_leadsTo_34 hX hO hΩ σ (y2) (y3))
      · refine g_iload_n hX (dc_X0_leadsTo 9 rfl) rfl 2 rfl ?_
        refine g_iload_n hX (dc_X0_leadsTo 10 rfl) rfl 1 rfl ?_
        refine g_icmp_ge (tgt := 34) hX (dc_X0_leadsTo 11 rfl) (by decide) (fun h11 => ?_) (fun h11 => ?_)
        · exact g_sub [1, 2] rfl (c_X0_leadsTo_34 hX hO hΩ σ (y2) (y3))
        · refine g_aload_n hX (dc_X0_leadsTo 12 rfl) rfl 0 rfl ?_
          refine g_getF (q := 53) hX (dc_X0_leadsTo 13 rfl) fl_X0_9 (by decide) rfl (stS hΩ 52 rfl) rfl ?_
          refine g_iload_n hX (dc_X0_leadsTo 14 rfl) rfl 2 rfl ?_
          refine g_chk (fun hc12 => ?_)
          refine g_iald hX (dc_X0_leadsTo 15 rfl) (stS hΩ 53 rfl) hc12 rfl ?_
          refine g_istore_n (L' := [(3, .int (sI σ 53 (ix y3))), (0, .ref 52), (2, .int y2), (4, .int y4)]) hX (dc_X0_leadsTo 16 rfl) rfl (by decide) rfl ?_
          refine g_iinc (w := (y4 + (1 : Int32))) (L' := [(4, .int (y4 + (1 : Int32))), (3, .int (sI σ 53 (ix y3))), (0, .ref 52), (2, .int y2)]) hX (dc_X0_leadsTo 17 rfl) 3 rfl rfl (by decide) rfl ?_
          refine g_goto (tgt := 5) hX (dc_X0_leadsTo 18 rfl) (by decide) ?_
          exact g_sub [2, 3, 1, 0] rfl (hk5 (y2) ((sI σ 53 (ix y3))) ((y4 + (1 : Int32))) )
def b_X0_leadsTo_0   (x1 : Int32) (x2 : Int32)  (σ : MS) : Option (Int32) := (b_X0_leadsTo_5 FU (x2) (x1) ((0 : Int32)) σ)
set_option maxHeartbeats 4000000 in
set_option maxRecDepth 20000 in
theorem c_X0_leadsTo_0 {X : CX} {Ω : OM} (hX : CF X Ω RX0 cX0_leadsTo 5 (some .boolean) rm_X0_leadsTo) (hO : OKO Ω) (hΩ : oSH Ω = SHX)   (σ : MS)  (x1 : Int32) (x2 : Int32)    : GE X Ω 5 0 0 (emPI σ) 0 0 0 [(0, .ref 52), (1, .int x1), (2, .int x2)] [] σ (b_X0_leadsTo_0  x1 x2 σ) := by
  unfold b_X0_leadsTo_0
  refine g_iload_n hX (dc_X0_leadsTo 0 rfl) rfl 1 rfl ?_
  refine g_istore_n (L' := [(3, .int x1), (0, .ref 52), (1, .int x1), (2, .int x2)]) hX (dc_X0_leadsTo 1 rfl) rfl (by decide) rfl ?_
  refine g_iconst (w := (0 : Int32)) hX (dc_X0_leadsTo 2 rfl) (by decide) ?_
  refine g_istore (L' := [(4, .int (0 : Int32)), (3, .int x1), (0, .ref 52), (1, .int x1), (2, .int x2)]) hX (dc_X0_leadsTo 3 rfl) (by decide) rfl ?_
  exact g_sub [2, 4, 1, 0] rfl (c_X0_leadsTo_5 hX hO hΩ σ FU (x2) (x1) ((0 : Int32)))
def f_X0_leadsTo (x1 : Int32) (x2 : Int32) (σ : MS) : Option (Int32) := b_X0_leadsTo_0  x1 x2 σ
theorem con_X0_leadsTo {Ω : OM} (hO : OKO Ω) (hΩ : oSH Ω = SHX) (x1 : Int32) (x2 : Int32) (σ : MS)  : Con Ω yX0_leadsTo cX0_leadsTo 5 (some .boolean) rm_X0_leadsTo (emPI σ) [.ref 52, .int x1, .int x2] σ (f_X0_leadsTo x1 x2 σ) :=
  con_of hO (by decide +kernel) (Nat.le_of_ble_eq_true rfl) rfl (fun X hX _ => c_X0_leadsTo_0 hX hO hΩ   σ x1 x2)
def it_X0_cost : List (Nat × Instr × Nat × Nat) := [(0, .iconst 0, 1, 1), (1, .istore_n 2, 1, 2), (2, .iconst 0, 1, 3), (3, .istore_n 3, 1, 4), (4, .iload_n 3, 1, 5), (5, .aload_n 1, 1, 6), (6, .getfield 18, 3, 9), (9, .if_icmp .ge 33, 3, 12), (12, .aload_n 0, 1, 13), (13, .getfield 15, 3, 16), (16, .iload_n 3, 1, 17), (17, .iaload, 1, 18), (18, .iconst (-1), 1, 19), (19, .if_icmp .ne 17, 3, 22), (22, .iload_n 2, 1, 23), (23, .aload_n 1, 1, 24), (24, .getfield 44, 3, 27), (27, .aload_n 1, 1, 28), (28, .getfield 47, 3, 31), (31, .iload_n 3, 1, 32), (32, .iaload, 1, 33), (33, .iaload, 1, 34), (34, .iadd, 1, 35), (35, .istore_n 2, 1, 36), (36, .iinc 3 1, 3, 39), (39, .goto (-35), 3, 42), (42, .iload_n 2, 1, 43), (43, .ireturn, 1, 44)]
theorem id_X0_cost : ∀ q ∈ it_X0_cost, decode cX0_cost q.1 = .ok (q.2.1, q.2.2.1) ∧ q.1 + q.2.2.1 = q.2.2.2 := by decide +kernel
theorem dc_X0_cost {pc : Nat} {i : Instr} {n pc' : Nat} (j : Nat) (h : it_X0_cost[j]? = some (pc, i, n, pc')) : Dc cX0_cost pc i n pc' := dc_of id_X0_cost j h
abbrev rm_X0_cost : Room := { frames := 0, cells := 0, slots := 0, locals := 0 }
def b_X0_cost_36  (k4 : Int32 → Int32 → MS → Option (Int32))  (y2 : Int32) (y3 : Int32) (σ : MS) : Option (Int32) := (k4 (y2) ((y3 + (1 : Int32))) σ)
set_option maxHeartbeats 4000000 in
set_option maxRecDepth 20000 in
theorem c_X0_cost_36 {X : CX} {Ω : OM} (hX : CF X Ω RX0 cX0_cost 4 (some .int) rm_X0_cost) (hO : OKO Ω) (hΩ : oSH Ω = SHX)   (σ : MS) (k4 : Int32 → Int32 → MS → Option (Int32)) (hk4 : ∀ (y2 : Int32) (y3 : Int32), GE X Ω 4 0 0 (emPI σ) 0 0 4 [(0, .ref 52), (1, .ref 23), (2, .int y2), (3, .int y3)] [] σ (k4 y2 y3 σ))  (y2 : Int32) (y3 : Int32)   : GE X Ω 4 0 0 (emPI σ) 0 0 36 [(0, .ref 52), (1, .ref 23), (2, .int y2), (3, .int y3)] [] σ (b_X0_cost_36  k4 y2 y3 σ) := by
  unfold b_X0_cost_36
  refine g_iinc (w := (y3 + (1 : Int32))) (L' := [(3, .int (y3 + (1 : Int32))), (0, .ref 52), (1, .ref 23), (2, .int y2)]) hX (dc_X0_cost 24 rfl) 3 rfl rfl (by decide) rfl ?_
  refine g_goto (tgt := 4) hX (dc_X0_cost 25 rfl) (by decide) ?_
  exact g_sub [1, 2, 3, 0] rfl (hk4 (y2) ((y3 + (1 : Int32))) )
def b_X0_cost_4   : Nat → Int32 → Int32 → MS → Option (Int32)
  | 0, _, _, _ => none
  | n + 1, y2, y3, σ => (if (sI σ 23 4) ≤ y3 then some y2 else chk (inb y3 6) ((if (sI σ 54 (ix y3)) = (-1 : Int32) then chk (inb y3 6) (chk (inb (sI σ 29 (ix y3)) 5) ((b_X0_cost_36 (b_X0_cost_4  n) ((y2 + (sI σ 24 (ix (sI σ 29 (ix y3)))))) (y3) σ))) else (b_X0_cost_36 (b_X0_cost_4  n) (y2) (y3) σ))))
set_option maxHeartbeats 4000000 in
set_option maxRecDepth 20000 in
theorem c_X0_cost_4 {X : CX} {Ω : OM} (hX : CF X Ω RX0 cX0_cost 4 (some .int) rm_X0_cost) (hO : OKO Ω) (hΩ : oSH Ω = SHX)   (σ : MS)  : ∀ (n : Nat) (y2 : Int32) (y3 : Int32)  , GE X Ω 4 0 0 (emPI σ) 0 0 4 [(0, .ref 52), (1, .ref 23), (2, .int y2), (3, .int y3)] [] σ (b_X0_cost_4  n y2 y3 σ)
  | 0, _, _ => g_none
  | n + 1, y2, y3 => by
    have hk4 := c_X0_cost_4 hX hO hΩ  σ n
    unfold b_X0_cost_4
    refine g_iload_n hX (dc_X0_cost 4 rfl) rfl 3 rfl ?_
    refine g_aload_n hX (dc_X0_cost 5 rfl) rfl 1 rfl ?_
    refine g_getI hX (dc_X0_cost 6 rfl) fl_X0_18 (by decide) rfl (stS hΩ 23 rfl) ?_
    refine g_icmp_ge (tgt := 42) hX (dc_X0_cost 7 rfl) (by decide) (fun h6 => ?_) (fun h6 => ?_)
    · refine g_iload_n hX (dc_X0_cost 26 rfl) rfl 2 rfl ?_
      exact g_iret hX (dc_X0_cost 27 rfl) rfl rfl (Nat.le_refl _) (Nat.le_refl _)
    · refine g_aload_n hX (dc_X0_cost 8 rfl) rfl 0 rfl ?_
      refine g_getF (q := 54) hX (dc_X0_cost 9 rfl) fl_X0_15 (by decide) rfl (stS hΩ 52 rfl) rfl ?_
      refine g_iload_n hX (dc_X0_cost 10 rfl) rfl 3 rfl ?_
      refine g_chk (fun hc7 => ?_)
      refine g_iald hX (dc_X0_cost 11 rfl) (stS hΩ 54 rfl) hc7 rfl ?_
      refine g_iconst (w := (-1 : Int32)) hX (dc_X0_cost 12 rfl) (by decide) ?_
      refine g_icmp_ne (tgt := 36) hX (dc_X0_cost 13 rfl) (by decide) (fun h8 => ?_) (fun h8 => ?_)
      · refine g_iload_n hX (dc_X0_cost 14 rfl) rfl 2 rfl ?_
        refine g_aload_n hX (dc_X0_cost 15 rfl) rfl 1 rfl ?_
        refine g_getF (q := 24) hX (dc_X0_cost 16 rfl) fl_X0_44 (by decide) rfl (stS hΩ 23 rfl) rfl ?_
        refine g_aload_n hX (dc_X0_cost 17 rfl) rfl 1 rfl ?_
        refine g_getF (q := 29) hX (dc_X0_cost 18 rfl) fl_X0_47 (by decide) rfl (stS hΩ 23 rfl) rfl ?_
        refine g_iload_n hX (dc_X0_cost 19 rfl) rfl 3 rfl ?_
        refine g_chk (fun hc9 => ?_)
        refine g_iald hX (dc_X0_cost 20 rfl) (stS hΩ 29 rfl) hc9 rfl ?_
        refine g_chk (fun hc10 => ?_)
        refine g_iald hX (dc_X0_cost 21 rfl) (stS hΩ 24 rfl) hc10 rfl ?_
        refine g_iadd hX (dc_X0_cost 22 rfl) ?_
        refine g_istore_n (L' := [(2, .int (y2 + (sI σ 24 (ix (sI σ 29 (ix y3)))))), (0, .ref 52), (1, .ref 23), (3, .int y3)]) hX (dc_X0_cost 23 rfl) rfl (by decide) rfl ?_
        exact g_sub [1, 2, 0, 3] rfl (c_X0_cost_36 hX hO hΩ σ _ hk4 ((y2 + (sI σ 24 (ix (sI σ 29 (ix y3)))))) (y3))
      · exact g_sub [0, 1, 2, 3] rfl (c_X0_cost_36 hX hO hΩ σ _ hk4 (y2) (y3))
def b_X0_cost_0     (σ : MS) : Option (Int32) := (b_X0_cost_4 FU ((0 : Int32)) ((0 : Int32)) σ)
set_option maxHeartbeats 4000000 in
set_option maxRecDepth 20000 in
theorem c_X0_cost_0 {X : CX} {Ω : OM} (hX : CF X Ω RX0 cX0_cost 4 (some .int) rm_X0_cost) (hO : OKO Ω) (hΩ : oSH Ω = SHX)   (σ : MS)      : GE X Ω 4 0 0 (emPI σ) 0 0 0 [(0, .ref 52), (1, .ref 23)] [] σ (b_X0_cost_0  σ) := by
  unfold b_X0_cost_0
  refine g_iconst (w := (0 : Int32)) hX (dc_X0_cost 0 rfl) (by decide) ?_
  refine g_istore_n (L' := [(2, .int (0 : Int32)), (0, .ref 52), (1, .ref 23)]) hX (dc_X0_cost 1 rfl) rfl (by decide) rfl ?_
  refine g_iconst (w := (0 : Int32)) hX (dc_X0_cost 2 rfl) (by decide) ?_
  refine g_istore_n (L' := [(3, .int (0 : Int32)), (2, .int (0 : Int32)), (0, .ref 52), (1, .ref 23)]) hX (dc_X0_cost 3 rfl) rfl (by decide) rfl ?_
  exact g_sub [2, 3, 1, 0] rfl (c_X0_cost_4 hX hO hΩ σ FU ((0 : Int32)) ((0 : Int32)))
def f_X0_cost  (σ : MS) : Option (Int32) := b_X0_cost_0   σ
theorem con_X0_cost {Ω : OM} (hO : OKO Ω) (hΩ : oSH Ω = SHX)  (σ : MS)  : Con Ω yX0_cost cX0_cost 4 (some .int) rm_X0_cost (emPI σ) [.ref 52, .ref 23] σ (f_X0_cost  σ) :=
  con_of hO (by decide +kernel) (Nat.le_of_ble_eq_true rfl) rfl (fun X hX _ => c_X0_cost_0 hX hO hΩ   σ )
def it_X1_follow : List (Nat × Instr × Nat × Nat) := [(0, .aload_n 0, 1, 1), (1, .aload_n 1, 1, 2), (2, .putfield 25, 3, 5), (5, .aload_n 0, 1, 6), (6, .iload_n 2, 1, 7), (7, .putfield 17, 3, 10), (10, .return_, 1, 11)]
theorem id_X1_follow : ∀ q ∈ it_X1_follow, decode cX1_follow q.1 = .ok (q.2.1, q.2.2.1) ∧ q.1 + q.2.2.1 = q.2.2.2 := by decide +kernel
theorem dc_X1_follow {pc : Nat} {i : Instr} {n pc' : Nat} (j : Nat) (h : it_X1_follow[j]? = some (pc, i, n, pc')) : Dc cX1_follow pc i n pc' := dc_of id_X1_follow j h
abbrev rm_X1_follow : Room := { frames := 0, cells := 0, slots := 0, locals := 0 }
def b_X1_follow_0 (r1 : Option Nat)  (x2 : Int32)  (σ : MS) : Option (MS) := some ((wI (wR σ 44 2 r1) 44 3 x2))
set_option maxHeartbeats 4000000 in
set_option maxRecDepth 20000 in
theorem c_X1_follow_0 {X : CX} {Ω : OM} (hX : CF X Ω RX1 cX1_follow 3 none rm_X1_follow) (hO : OKO Ω) (hΩ : oSH Ω = SHX) (r1 : Option Nat)   (x2 : Int32)  (σ : MS)  : GE X Ω 3 0 0 (emWV) 0 0 0 [(0, .ref 44), (1, va_rf r1), (2, .int x2)] [] σ (b_X1_follow_0 r1 x2 σ) := by
  unfold b_X1_follow_0
  refine g_aload_n hX (dc_X1_follow 0 rfl) rfl 0 rfl ?_
  refine g_aloadQ_n hX (dc_X1_follow 1 rfl) rfl 1 rfl ?_
  refine g_putN (raw := false) (r := r1) hX (dc_X1_follow 2 rfl) fl_X1_25 (by decide) (Or.inl rfl) (fun w => by cases w <;> exact ⟨rfl, rfl⟩) (stS hΩ 44 rfl) (Or.inl rfl) ?_
  refine g_aload_n hX (dc_X1_follow 3 rfl) rfl 0 rfl ?_
  refine g_iload_n hX (dc_X1_follow 4 rfl) rfl 2 rfl ?_
  refine g_putI (raw := false) hX (dc_X1_follow 5 rfl) fl_X1_17 (by decide) ⟨rfl, rfl⟩ ⟨rfl, rfl⟩ (stS hΩ 44 rfl) ?_
  exact g_vret hX (dc_X1_follow 6 rfl) rfl (Nat.le_refl _) (Nat.le_refl _)
def f_X1_follow (r1 : Option Nat) (x2 : Int32) (σ : MS) : Option (MS) := b_X1_follow_0 r1 x2 σ
theorem con_X1_follow {Ω : OM} (hO : OKO Ω) (hΩ : oSH Ω = SHX) (r1 : Option Nat) (x2 : Int32) (σ : MS)  : Con Ω yX1_follow cX1_follow 3 none rm_X1_follow (emWV) [.ref 44, va_rf r1, .int x2] σ (f_X1_follow r1 x2 σ) := by
  cases r1
  all_goals exact con_of hO (by decide +kernel) (Nat.le_of_ble_eq_true rfl) rfl (fun X hX _ => c_X1_follow_0 hX hO hΩ _  x2 σ )
def it_J9_floorMod_7cf53 : List (Nat × Instr × Nat × Nat) := [(0, .iload_n 0, 1, 1), (1, .iload_n 1, 1, 2), (2, .irem, 1, 3), (3, .istore_n 2, 1, 4), (4, .iload_n 0, 1, 5), (5, .iload_n 1, 1, 6), (6, .ixor, 1, 7), (7, .ifCond .ge 11, 3, 10), (10, .iload_n 2, 1, 11), (11, .ifCond .eq 7, 3, 14), (14, .iload_n 2, 1, 15), (15, .iload_n 1, 1, 16), (16, .iadd, 1, 17), (17, .ireturn, 1, 18), (18, .iload_n 2, 1, 19), (19, .ireturn, 1, 20)]
theorem id_J9_floorMod_7cf53 : ∀ q ∈ it_J9_floorMod_7cf53, decode cJ9_floorMod_7cf53 q.1 = .ok (q.2.1, q.2.2.1) ∧ q.1 + q.2.2.1 = q.2.2.2 := by decide +kernel
theorem dc_J9_floorMod_7cf53 {pc : Nat} {i : Instr} {n pc' : Nat} (j : Nat) (h : it_J9_floorMod_7cf53[j]? = some (pc, i, n, pc')) : Dc cJ9_floorMod_7cf53 pc i n pc' := dc_of id_J9_floorMod_7cf53 j h
abbrev rm_J9_floorMod_7cf53 : Room := { frames := 0, cells := 0, slots := 0, locals := 0 }
def b_J9_floorMod_7cf53_18    (y2 : Int32)  : Option (Int32) := some y2
set_option maxHeartbeats 4000000 in
set_option maxRecDepth 20000 in
theorem c_J9_floorMod_7cf53_18 {X : CX} {Ω : OM} (hX : CF X Ω RJ9 cJ9_floorMod_7cf53 3 (some .int) rm_J9_floorMod_7cf53) (hO : OKO Ω) (hΩ : oSH Ω = SHX)   (σ : MS)   (y2 : Int32)   : GE X Ω 3 0 0 (emPI σ) 0 0 18 [(2, .int y2)] [] σ (b_J9_floorMod_7cf53_18  y2) := by
  unfold b_J9_floorMod_7cf53_18
  refine g_iload_n hX (dc_J9_floorMod_7cf53 14 rfl) rfl 0 rfl ?_
  exact g_iret hX (dc_J9_floorMod_7cf53 15 rfl) rfl rfl (Nat.le_refl _) (Nat.le_refl _)
def b_J9_floorMod_7cf53_0   (x0 : Int32) (x1 : Int32)   : Option (Int32) := chk (¬ x1 = 0) ((if 0 ≤ (x0 ^^^ x1) then (b_J9_floorMod_7cf53_18 ((x0 - x0 / x1 * x1))) else (if (x0 - x0 / x1 * x1) = 0 then (b_J9_floorMod_7cf53_18 ((x0 - x0 / x1 * x1))) else some ((x0 - x0 / x1 * x1) + x1))))
set_option maxHeartbeats 4000000 in
set_option maxRecDepth 20000 in
theorem c_J9_floorMod_7cf53_0 {X : CX} {Ω : OM} (hX : CF X Ω RJ9 cJ9_floorMod_7cf53 3 (some .int) rm_J9_floorMod_7cf53) (hO : OKO Ω) (hΩ : oSH Ω = SHX)   (σ : MS)  (x0 : Int32) (x1 : Int32)    : GE X Ω 3 0 0 (emPI σ) 0 0 0 [(0, .int x0), (1, .int x1)] [] σ (b_J9_floorMod_7cf53_0  x0 x1) := by
  unfold b_J9_floorMod_7cf53_0
  refine g_iload_n hX (dc_J9_floorMod_7cf53 0 rfl) rfl 0 rfl ?_
  refine g_iload_n hX (dc_J9_floorMod_7cf53 1 rfl) rfl 1 rfl ?_
  refine g_chk (fun hc4 => ?_)
  refine g_irem hX (dc_J9_floorMod_7cf53 2 rfl) hc4 ?_
  refine g_istore_n (L' := [(2, .int (x0 - x0 / x1 * x1)), (0, .int x0), (1, .int x1)]) hX (dc_J9_floorMod_7cf53 3 rfl) rfl (by decide) rfl ?_
  refine g_iload_n hX (dc_J9_floorMod_7cf53 4 rfl) rfl 1 rfl ?_
  refine g_iload_n hX (dc_J9_floorMod_7cf53 5 rfl) rfl 2 rfl ?_
  refine g_ixor hX (dc_J9_floorMod_7cf53 6 rfl) ?_
  refine g_if_ge (tgt := 18) hX (dc_J9_floorMod_7cf53 7 rfl) (by decide) (fun h5 => ?_) (fun h5 => ?_)
  · exact g_sub [0] rfl (c_J9_floorMod_7cf53_18 hX hO hΩ σ ((x0 - x0 / x1 * x1)))
  · refine g_iload_n hX (dc_J9_floorMod_7cf53 8 rfl) rfl 0 rfl ?_
    refine g_if_eq (tgt := 18) hX (dc_J9_floorMod_7cf53 9 rfl) (by decide) (fun h6 => ?_) (fun h6 => ?_)
    · exact g_sub [0] rfl (c_J9_floorMod_7cf53_18 hX hO hΩ σ ((x0 - x0 / x1 * x1)))
    · refine g_iload_n hX (dc_J9_floorMod_7cf53 10 rfl) rfl 0 rfl ?_
      refine g_iload_n hX (dc_J9_floorMod_7cf53 11 rfl) rfl 2 rfl ?_
      refine g_iadd hX (dc_J9_floorMod_7cf53 12 rfl) ?_
      exact g_iret hX (dc_J9_floorMod_7cf53 13 rfl) rfl rfl (Nat.le_refl _) (Nat.le_refl _)
def f_J9_floorMod_7cf53 (x0 : Int32) (x1 : Int32)  : Option (Int32) := b_J9_floorMod_7cf53_0  x0 x1 
theorem con_J9_floorMod_7cf53 {Ω : OM} (hO : OKO Ω) (hΩ : oSH Ω = SHX) (x0 : Int32) (x1 : Int32) (σ : MS)  : Con Ω yJ9_floorMod_7cf53 cJ9_floorMod_7cf53 3 (some .int) rm_J9_floorMod_7cf53 (emPI σ) [.int x0, .int x1] σ (f_J9_floorMod_7cf53 x0 x1 ) :=
  con_ofF hO (by decide +kernel) (Nat.le_of_ble_eq_true rfl) rfl (fun X hX _ => c_J9_floorMod_7cf53_0 hX hO hΩ   σ x0 x1)
def it_X3_isAsleep : List (Nat × Instr × Nat × Nat) := [(0, .iload_n 2, 1, 1), (1, .aload_n 0, 1, 2), (2, .getfield 18, 3, 5), (5, .iload_n 1, 1, 6), (6, .iaload, 1, 7), (7, .isub, 1, 8), (8, .bipush 24, 2, 10), (10, .invokestatic 73, 3, 13), (13, .aload_n 0, 1, 14), (14, .getfield 21, 3, 17), (17, .iload_n 1, 1, 18), (18, .iaload, 1, 19), (19, .if_icmp .ge 7, 3, 22), (22, .iconst 1, 1, 23), (23, .goto 4, 3, 26), (26, .iconst 0, 1, 27), (27, .ireturn, 1, 28)]
theorem id_X3_isAsleep : ∀ q ∈ it_X3_isAsleep, decode cX3_isAsleep q.1 = .ok (q.2.1, q.2.2.1) ∧ q.1 + q.2.2.1 = q.2.2.2 := by decide +kernel
theorem dc_X3_isAsleep {pc : Nat} {i : Instr} {n pc' : Nat} (j : Nat) (h : it_X3_isAsleep[j]? = some (pc, i, n, pc')) : Dc cX3_isAsleep pc i n pc' := dc_of id_X3_isAsleep j h
abbrev rm_X3_isAsleep : Room := { frames := 1, cells := 0, slots := 0, locals := 22 }
def b_X3_isAsleep_27    (s0 : Int32) (σ : MS) : Option (Int32) := chk (s0 = 0 ∨ s0 = 1) (some s0)
set_option maxHeartbeats 4000000 in
set_option maxRecDepth 20000 in
theorem c_X3_isAsleep_27 {X : CX} {Ω : OM} (hX : CF X Ω RX3 cX3_isAsleep 3 (some .boolean) rm_X3_isAsleep) (hO : OKO Ω) (hΩ : oSH Ω = SHX)   (σ : MS)   (s0 : Int32)   : GE X Ω 3 0 0 (emPI σ) 0 0 27 [] [.int s0] σ (b_X3_isAsleep_27  s0 σ) := by
  unfold b_X3_isAsleep_27
  refine g_chk (fun hc6 => ?_)
  exact g_iret hX (dc_X3_isAsleep 16 rfl) (nz_bool hc6).1 rfl (Nat.le_refl _) (Nat.le_refl _)
def b_X3_isAsleep_0   (x1 : Int32) (x2 : Int32)  (σ : MS) : Option (Int32) := chk (inb x1 4) ((f_J9_floorMod_7cf53 (x2 - (sI σ 26 (ix x1))) (24 : Int32)).bind (fun r8 => chk (inb x1 4) ((if (sI σ 27 (ix x1)) ≤ r8 then (b_X3_isAsleep_27 ((0 : Int32)) σ) else (b_X3_isAsleep_27 ((1 : Int32)) σ)))))
set_option maxHeartbeats 4000000 in
set_option maxRecDepth 20000 in
theorem c_X3_isAsleep_0 {X : CX} {Ω : OM} (hX : CF X Ω RX3 cX3_isAsleep 3 (some .boolean) rm_X3_isAsleep) (hO : OKO Ω) (hΩ : oSH Ω = SHX)   (σ : MS)  (x1 : Int32) (x2 : Int32)    : GE X Ω 3 0 0 (emPI σ) 0 0 0 [(0, .ref 23), (1, .int x1), (2, .int x2)] [] σ (b_X3_isAsleep_0  x1 x2 σ) := by
  unfold b_X3_isAsleep_0
  refine g_iload_n hX (dc_X3_isAsleep 0 rfl) rfl 2 rfl ?_
  refine g_aload_n hX (dc_X3_isAsleep 1 rfl) rfl 0 rfl ?_
  refine g_getF (q := 26) hX (dc_X3_isAsleep 2 rfl) fl_X3_18 (by decide) rfl (stS hΩ 23 rfl) rfl ?_
  refine g_iload_n hX (dc_X3_isAsleep 3 rfl) rfl 1 rfl ?_
  refine g_chk (fun hc7 => ?_)
  refine g_iald hX (dc_X3_isAsleep 4 rfl) (stS hΩ 26 rfl) hc7 rfl ?_
  refine g_isub hX (dc_X3_isAsleep 5 rfl) ?_
  refine g_bipush (w := (24 : Int32)) hX (dc_X3_isAsleep 6 rfl) (by decide) ?_
  refine gS_PI (As := [.int (x2 - (sI σ 26 (ix x1))), .int (24 : Int32)]) (st := []) hX (dc_X3_isAsleep 7 rfl) ml_X3_73 (con_J9_floorMod_7cf53 hO hΩ (x2 - (sI σ 26 (ix x1))) (24 : Int32) σ) rfl rfl ⟨by decide, by decide⟩ ⟨rfl, rfl⟩ ⟨Nat.zero_le _, Nat.zero_le _⟩ (Nat.le_of_ble_eq_true rfl) (fun r8 _ => ?_)
  refine g_aload_n hX (dc_X3_isAsleep 8 rfl) rfl 0 rfl ?_
  refine g_getF (q := 27) hX (dc_X3_isAsleep 9 rfl) fl_X3_21 (by decide) rfl (stS hΩ 23 rfl) rfl ?_
  refine g_iload_n hX (dc_X3_isAsleep 10 rfl) rfl 1 rfl ?_
  refine g_chk (fun hc9 => ?_)
  refine g_iald hX (dc_X3_isAsleep 11 rfl) (stS hΩ 27 rfl) hc9 rfl ?_
  refine g_icmp_ge (tgt := 26) hX (dc_X3_isAsleep 12 rfl) (by decide) (fun h10 => ?_) (fun h10 => ?_)
  · refine g_iconst (w := (0 : Int32)) hX (dc_X3_isAsleep 15 rfl) (by decide) ?_
    exact g_sub [] rfl (c_X3_isAsleep_27 hX hO hΩ σ ((0 : Int32)))
  · refine g_iconst (w := (1 : Int32)) hX (dc_X3_isAsleep 13 rfl) (by decide) ?_
    refine g_goto (tgt := 27) hX (dc_X3_isAsleep 14 rfl) (by decide) ?_
    exact g_sub [] rfl (c_X3_isAsleep_27 hX hO hΩ σ ((1 : Int32)))
def f_X3_isAsleep (x1 : Int32) (x2 : Int32) (σ : MS) : Option (Int32) := b_X3_isAsleep_0  x1 x2 σ
theorem con_X3_isAsleep {Ω : OM} (hO : OKO Ω) (hΩ : oSH Ω = SHX) (x1 : Int32) (x2 : Int32) (σ : MS)  : Con Ω yX3_isAsleep cX3_isAsleep 3 (some .boolean) rm_X3_isAsleep (emPI σ) [.ref 23, .int x1, .int x2] σ (f_X3_isAsleep x1 x2 σ) :=
  con_of hO (by decide +kernel) (Nat.le_of_ble_eq_true rfl) rfl (fun X hX _ => c_X3_isAsleep_0 hX hO hΩ   σ x1 x2)
def it_X8_load : List (Nat × Instr × Nat × Nat) := [(0, .iconst 0, 1, 1), (1, .istore_n 2, 1, 2), (2, .iconst 0, 1, 3), (3, .istore_n 3, 1, 4), (4, .iload_n 3, 1, 5), (5, .bipush 6, 2, 7), (7, .if_icmp .ge 22, 3, 10), (10, .aload_n 0, 1, 11), (11, .getfield 9, 3, 14), (14, .iload_n 3, 1, 15), (15, .iaload, 1, 16), (16, .iload_n 1, 1, 17), (17, .if_icmp .ne 6, 3, 20), (20, .iinc 2 1, 3, 23), (23, .iinc 3 1, 3, 26), (26, .goto (-22), 3, 29), (29, .iload_n 2, 1, 30), (30, .ireturn, 1, 31)]
theorem id_X8_load : ∀ q ∈ it_X8_load, decode cX8_load q.1 = .ok (q.2.1, q.2.2.1) ∧ q.1 + q.2.2.1 = q.2.2.2 := by decide +kernel
theorem dc_X8_load {pc : Nat} {i : Instr} {n pc' : Nat} (j : Nat) (h : it_X8_load[j]? = some (pc, i, n, pc')) : Dc cX8_load pc i n pc' := dc_of id_X8_load j h
abbrev rm_X8_load : Room := { frames := 0, cells := 0, slots := 0, locals := 0 }
def b_X8_load_23 (a0 : Nat) (k4 : Int32 → Int32 → Int32 → MS → Option (Int32))  (y1 : Int32) (y2 : Int32) (y3 : Int32) (σ : MS) : Option (Int32) := (k4 (y1) (y2) ((y3 + (1 : Int32))) σ)
set_option maxHeartbeats 4000000 in
set_option maxRecDepth 20000 in
theorem c_X8_load_23 {X : CX} {Ω : OM} (hX : CF X Ω RX8 cX8_load 4 (some .int) rm_X8_load) (hO : OKO Ω) (hΩ : oSH Ω = SHX) (a0 : Nat) (ha0 : sRt Ω a0 shState) (σ : MS) (k4 : Int32 → Int32 → Int32 → MS → Option (Int32)) (hk4 : ∀ (y1 : Int32) (y2 : Int32) (y3 : Int32), GE X Ω 4 0 0 (emPI σ) 0 0 4 [(0, .ref a0), (1, .int y1), (2, .int y2), (3, .int y3)] [] σ (k4 y1 y2 y3 σ))  (y1 : Int32) (y2 : Int32) (y3 : Int32)   : GE X Ω 4 0 0 (emPI σ) 0 0 23 [(0, .ref a0), (1, .int y1), (2, .int y2), (3, .int y3)] [] σ (b_X8_load_23 a0 k4 y1 y2 y3 σ) := by
  unfold b_X8_load_23
  refine g_iinc (w := (y3 + (1 : Int32))) (L' := [(3, .int (y3 + (1 : Int32))), (0, .ref a0), (1, .int y1), (2, .int y2)]) hX (dc_X8_load 14 rfl) 3 rfl rfl (by decide) rfl ?_
  refine g_goto (tgt := 4) hX (dc_X8_load 15 rfl) (by decide) ?_
  exact g_sub [1, 2, 3, 0] rfl (hk4 (y1) (y2) ((y3 + (1 : Int32))) )
def b_X8_load_4 (a0 : Nat)  : Nat → Int32 → Int32 → Int32 → MS → Option (Int32)
  | 0, _, _, _, _ => none
  | n + 1, y1, y2, y3, σ => (if (6 : Int32) ≤ y3 then some y2 else chk (inb y3 6) ((if (sI σ (a0 + 1) (ix y3)) = y1 then (b_X8_load_23 a0 (b_X8_load_4 a0 n) (y1) ((y2 + (1 : Int32))) (y3) σ) else (b_X8_load_23 a0 (b_X8_load_4 a0 n) (y1) (y2) (y3) σ))))
set_option maxHeartbeats 4000000 in
set_option maxRecDepth 20000 in
theorem c_X8_load_4 {X : CX} {Ω : OM} (hX : CF X Ω RX8 cX8_load 4 (some .int) rm_X8_load) (hO : OKO Ω) (hΩ : oSH Ω = SHX) (a0 : Nat) (ha0 : sRt Ω a0 shState) (σ : MS)  : ∀ (n : Nat) (y1 : Int32) (y2 : Int32) (y3 : Int32)  , GE X Ω 4 0 0 (emPI σ) 0 0 4 [(0, .ref a0), (1, .int y1), (2, .int y2), (3, .int y3)] [] σ (b_X8_load_4 a0 n y1 y2 y3 σ)
  | 0, _, _, _ => g_none
  | n + 1, y1, y2, y3 => by
    have hk4 := c_X8_load_4 hX hO hΩ a0 ha0 σ n
    unfold b_X8_load_4
    refine g_iload_n hX (dc_X8_load 4 rfl) rfl 3 rfl ?_
    refine g_bipush (w := (6 : Int32)) hX (dc_X8_load 5 rfl) (by decide) ?_
    refine g_icmp_ge (tgt := 29) hX (dc_X8_load 6 rfl) (by decide) (fun h4 => ?_) (fun h4 => ?_)
    · refine g_iload_n hX (dc_X8_load 16 rfl) rfl 2 rfl ?_
      exact g_iret hX (dc_X8_load 17 rfl) rfl rfl (Nat.le_refl _) (Nat.le_refl _)
    · refine g_aload_n hX (dc_X8_load 7 rfl) rfl 0 rfl ?_
      refine g_getF (q := (a0 + 1)) hX (dc_X8_load 8 rfl) fl_X8_9 (by decide) rfl (ha0.tf 0 rfl) rfl ?_
      refine g_iload_n hX (dc_X8_load 9 rfl) rfl 3 rfl ?_
      refine g_chk (fun hc5 => ?_)
      refine g_iald hX (dc_X8_load 10 rfl) (ha0.tf 1 rfl) hc5 rfl ?_
      refine g_iload_n hX (dc_X8_load 11 rfl) rfl 1 rfl ?_
      refine g_icmp_ne (tgt := 23) hX (dc_X8_load 12 rfl) (by decide) (fun h6 => ?_) (fun h6 => ?_)
      · refine g_iinc (w := (y2 + (1 : Int32))) (L' := [(2, .int (y2 + (1 : Int32))), (0, .ref a0), (1, .int y1), (3, .int y3)]) hX (dc_X8_load 13 rfl) 2 rfl rfl (by decide) rfl ?_
        exact g_sub [1, 2, 0, 3] rfl (c_X8_load_23 hX hO hΩ a0 ha0 σ _ hk4 (y1) ((y2 + (1 : Int32))) (y3))
      · exact g_sub [0, 1, 2, 3] rfl (c_X8_load_23 hX hO hΩ a0 ha0 σ _ hk4 (y1) (y2) (y3))
def b_X8_load_0 (a0 : Nat)  (x1 : Int32)  (σ : MS) : Option (Int32) := (b_X8_load_4 a0 FU (x1) ((0 : Int32)) ((0 : Int32)) σ)
set_option maxHeartbeats 4000000 in
set_option maxRecDepth 20000 in
theorem c_X8_load_0 {X : CX} {Ω : OM} (hX : CF X Ω RX8 cX8_load 4 (some .int) rm_X8_load) (hO : OKO Ω) (hΩ : oSH Ω = SHX) (a0 : Nat) (ha0 : sRt Ω a0 shState) (σ : MS)  (x1 : Int32)    : GE X Ω 4 0 0 (emPI σ) 0 0 0 [(0, .ref a0), (1, .int x1)] [] σ (b_X8_load_0 a0 x1 σ) := by
  unfold b_X8_load_0
  refine g_iconst (w := (0 : Int32)) hX (dc_X8_load 0 rfl) (by decide) ?_
  refine g_istore_n (L' := [(2, .int (0 : Int32)), (0, .ref a0), (1, .int x1)]) hX (dc_X8_load 1 rfl) rfl (by decide) rfl ?_
  refine g_iconst (w := (0 : Int32)) hX (dc_X8_load 2 rfl) (by decide) ?_
  refine g_istore_n (L' := [(3, .int (0 : Int32)), (2, .int (0 : Int32)), (0, .ref a0), (1, .int x1)]) hX (dc_X8_load 3 rfl) rfl (by decide) rfl ?_
  exact g_sub [2, 3, 1, 0] rfl (c_X8_load_4 hX hO hΩ a0 ha0 σ FU (x1) ((0 : Int32)) ((0 : Int32)))
def f_X8_load (a0 : Nat) (x1 : Int32) (σ : MS) : Option (Int32) := b_X8_load_0 a0 x1 σ
theorem con_X8_load {Ω : OM} (hO : OKO Ω) (hΩ : oSH Ω = SHX) (a0 : Nat) (x1 : Int32) (σ : MS) (ha0 : sRt Ω a0 shState) : Con Ω yX8_load cX8_load 4 (some .int) rm_X8_load (emPI σ) [.ref a0, .int x1] σ (f_X8_load a0 x1 σ) :=
  con_of hO (by decide +kernel) (Nat.le_of_ble_eq_true rfl) rfl (fun X hX _ => c_X8_load_0 hX hO hΩ a0 ha0 σ x1)
def it_X1_handsOf : List (Nat × Instr × Nat × Nat) := [(0, .aload_n 0, 1, 1), (1, .getfield 21, 3, 4), (4, .getfield 107, 3, 7), (7, .iload_n 1, 1, 8), (8, .iaload, 1, 9), (9, .iload_n 1, 1, 10), (10, .aload_n 0, 1, 11), (11, .getfield 17, 3, 14), (14, .if_icmp .ne 7, 3, 17), (17, .iconst 1, 1, 18), (18, .goto 4, 3, 21), (21, .iconst 0, 1, 22), (22, .iadd, 1, 23), (23, .ireturn, 1, 24)]
theorem id_X1_handsOf : ∀ q ∈ it_X1_handsOf, decode cX1_handsOf q.1 = .ok (q.2.1, q.2.2.1) ∧ q.1 + q.2.2.1 = q.2.2.2 := by decide +kernel
theorem dc_X1_handsOf {pc : Nat} {i : Instr} {n pc' : Nat} (j : Nat) (h : it_X1_handsOf[j]? = some (pc, i, n, pc')) : Dc cX1_handsOf pc i n pc' := dc_of id_X1_handsOf j h
abbrev rm_X1_handsOf : Room := { frames := 0, cells := 0, slots := 0, locals := 0 }
def b_X1_handsOf_22    (s0 : Int32) (s1 : Int32) (σ : MS) : Option (Int32) := some (s1 + s0)
set_option maxHeartbeats 4000000 in
set_option maxRecDepth 20000 in
theorem c_X1_handsOf_22 {X : CX} {Ω : OM} (hX : CF X Ω RX1 cX1_handsOf 2 (some .int) rm_X1_handsOf) (hO : OKO Ω) (hΩ : oSH Ω = SHX)   (σ : MS)   (s0 : Int32) (s1 : Int32)   : GE X Ω 2 0 0 (emPI σ) 0 0 22 [] [.int s0, .int s1] σ (b_X1_handsOf_22  s0 s1 σ) := by
  unfold b_X1_handsOf_22
  refine g_iadd hX (dc_X1_handsOf 12 rfl) ?_
  exact g_iret hX (dc_X1_handsOf 13 rfl) rfl rfl (Nat.le_refl _) (Nat.le_refl _)
def b_X1_handsOf_0   (x1 : Int32)  (σ : MS) : Option (Int32) := chk (inb x1 4) ((if x1 = (sI σ 44 3) then (b_X1_handsOf_22 ((1 : Int32)) ((sI σ 28 (ix x1))) σ) else (b_X1_handsOf_22 ((0 : Int32)) ((sI σ 28 (ix x1))) σ)))
set_option maxHeartbeats 4000000 in
set_option maxRecDepth 20000 in
theorem c_X1_handsOf_0 {X : CX} {Ω : OM} (hX : CF X Ω RX1 cX1_handsOf 2 (some .int) rm_X1_handsOf) (hO : OKO Ω) (hΩ : oSH Ω = SHX)   (σ : MS)  (x1 : Int32)    : GE X Ω 2 0 0 (emPI σ) 0 0 0 [(0, .ref 44), (1, .int x1)] [] σ (b_X1_handsOf_0  x1 σ) := by
  unfold b_X1_handsOf_0
  refine g_aload_n hX (dc_X1_handsOf 0 rfl) rfl 0 rfl ?_
  refine g_getF (q := 23) hX (dc_X1_handsOf 1 rfl) fl_X1_21 (by decide) rfl (stS hΩ 44 rfl) rfl ?_
  refine g_getF (q := 28) hX (dc_X1_handsOf 2 rfl) fl_X1_107 (by decide) rfl (stS hΩ 23 rfl) rfl ?_
  refine g_iload_n hX (dc_X1_handsOf 3 rfl) rfl 1 rfl ?_
  refine g_chk (fun hc3 => ?_)
  refine g_iald hX (dc_X1_handsOf 4 rfl) (stS hΩ 28 rfl) hc3 rfl ?_
  refine g_iload_n hX (dc_X1_handsOf 5 rfl) rfl 1 rfl ?_
  refine g_aload_n hX (dc_X1_handsOf 6 rfl) rfl 0 rfl ?_
  refine g_getI hX (dc_X1_handsOf 7 rfl) fl_X1_17 (by decide) rfl (stS hΩ 44 rfl) ?_
  refine g_icmp_ne (tgt := 21) hX (dc_X1_handsOf 8 rfl) (by decide) (fun h4 => ?_) (fun h4 => ?_)
  · refine g_iconst (w := (1 : Int32)) hX (dc_X1_handsOf 9 rfl) (by decide) ?_
    refine g_goto (tgt := 22) hX (dc_X1_handsOf 10 rfl) (by decide) ?_
    exact g_sub [] rfl (c_X1_handsOf_22 hX hO hΩ σ ((1 : Int32)) ((sI σ 28 (ix x1))))
  · refine g_iconst (w := (0 : Int32)) hX (dc_X1_handsOf 11 rfl) (by decide) ?_
    exact g_sub [] rfl (c_X1_handsOf_22 hX hO hΩ σ ((0 : Int32)) ((sI σ 28 (ix x1))))
def f_X1_handsOf (x1 : Int32) (σ : MS) : Option (Int32) := b_X1_handsOf_0  x1 σ
theorem con_X1_handsOf {Ω : OM} (hO : OKO Ω) (hΩ : oSH Ω = SHX) (x1 : Int32) (σ : MS)  : Con Ω yX1_handsOf cX1_handsOf 2 (some .int) rm_X1_handsOf (emPI σ) [.ref 44, .int x1] σ (f_X1_handsOf x1 σ) :=
  con_of hO (by decide +kernel) (Nat.le_of_ble_eq_true rfl) rfl (fun X hX _ => c_X1_handsOf_0 hX hO hΩ   σ x1)
def it_X3_hoursAwake : List (Nat × Instr × Nat × Nat) := [(0, .aload_n 0, 1, 1), (1, .getfield 21, 3, 4), (4, .iload_n 1, 1, 5), (5, .iaload, 1, 6), (6, .ifCond .ne 8, 3, 9), (9, .bipush 24, 2, 11), (11, .goto 16, 3, 14), (14, .aload_n 0, 1, 15), (15, .getfield 18, 3, 18), (18, .iload_n 1, 1, 19), (19, .iaload, 1, 20), (20, .iload_n 2, 1, 21), (21, .isub, 1, 22), (22, .bipush 24, 2, 24), (24, .invokestatic 73, 3, 27), (27, .ireturn, 1, 28)]
theorem id_X3_hoursAwake : ∀ q ∈ it_X3_hoursAwake, decode cX3_hoursAwake q.1 = .ok (q.2.1, q.2.2.1) ∧ q.1 + q.2.2.1 = q.2.2.2 := by decide +kernel
theorem dc_X3_hoursAwake {pc : Nat} {i : Instr} {n pc' : Nat} (j : Nat) (h : it_X3_hoursAwake[j]? = some (pc, i, n, pc')) : Dc cX3_hoursAwake pc i n pc' := dc_of id_X3_hoursAwake j h
abbrev rm_X3_hoursAwake : Room := { frames := 1, cells := 0, slots := 0, locals := 22 }
def b_X3_hoursAwake_27    (s0 : Int32) (σ : MS) : Option (Int32) := some s0
set_option maxHeartbeats 4000000 in
set_option maxRecDepth 20000 in
theorem c_X3_hoursAwake_27 {X : CX} {Ω : OM} (hX : CF X Ω RX3 cX3_hoursAwake 3 (some .int) rm_X3_hoursAwake) (hO : OKO Ω) (hΩ : oSH Ω = SHX)   (σ : MS)   (s0 : Int32)   : GE X Ω 3 0 0 (emPI σ) 0 0 27 [] [.int s0] σ (b_X3_hoursAwake_27  s0 σ) := by
  unfold b_X3_hoursAwake_27
  exact g_iret hX (dc_X3_hoursAwake 15 rfl) rfl rfl (Nat.le_refl _) (Nat.le_refl _)
def b_X3_hoursAwake_0   (x1 : Int32) (x2 : Int32)  (σ : MS) : Option (Int32) := chk (inb x1 4) ((if (sI σ 27 (ix x1)) = 0 then (b_X3_hoursAwake_27 ((24 : Int32)) σ) else chk (inb x1 4) ((f_J9_floorMod_7cf53 ((sI σ 26 (ix x1)) - x2) (24 : Int32)).bind (fun r8 => (b_X3_hoursAwake_27 (r8) σ)))))
set_option maxHeartbeats 4000000 in
set_option maxRecDepth 20000 in
theorem c_X3_hoursAwake_0 {X : CX} {Ω : OM} (hX : CF X Ω RX3 cX3_hoursAwake 3 (some .int) rm_X3_hoursAwake) (hO : OKO Ω) (hΩ : oSH Ω = SHX)   (σ : MS)  (x1 : Int32) (x2 : Int32)    : GE X Ω 3 0 0 (emPI σ) 0 0 0 [(0, .ref 23), (1, .int x1), (2, .int x2)] [] σ (b_X3_hoursAwake_0  x1 x2 σ) := by
  unfold b_X3_hoursAwake_0
  refine g_aload_n hX (dc_X3_hoursAwake 0 rfl) rfl 0 rfl ?_
  refine g_getF (q := 27) hX (dc_X3_hoursAwake 1 rfl) fl_X3_21 (by decide) rfl (stS hΩ 23 rfl) rfl ?_
  refine g_iload_n hX (dc_X3_hoursAwake 2 rfl) rfl 1 rfl ?_
  refine g_chk (fun hc5 => ?_)
  refine g_iald hX (dc_X3_hoursAwake 3 rfl) (stS hΩ 27 rfl) hc5 rfl ?_
  refine g_if_ne (tgt := 14) hX (dc_X3_hoursAwake 4 rfl) (by decide) (fun h6 => ?_) (fun h6 => ?_)
  · refine g_bipush (w := (24 : Int32)) hX (dc_X3_hoursAwake 5 rfl) (by decide) ?_
    refine g_goto (tgt := 27) hX (dc_X3_hoursAwake 6 rfl) (by decide) ?_
    exact g_sub [] rfl (c_X3_hoursAwake_27 hX hO hΩ σ ((24 : Int32)))
  · refine g_aload_n hX (dc_X3_hoursAwake 7 rfl) rfl 0 rfl ?_
    refine g_getF (q := 26) hX (dc_X3_hoursAwake 8 rfl) fl_X3_18 (by decide) rfl (stS hΩ 23 rfl) rfl ?_
    refine g_iload_n hX (dc_X3_hoursAwake 9 rfl) rfl 1 rfl ?_
    refine g_chk (fun hc7 => ?_)
    refine g_iald hX (dc_X3_hoursAwake 10 rfl) (stS hΩ 26 rfl) hc7 rfl ?_
    refine g_iload_n hX (dc_X3_hoursAwake 11 rfl) rfl 2 rfl ?_
    refine g_isub hX (dc_X3_hoursAwake 12 rfl) ?_
    refine g_bipush (w := (24 : Int32)) hX (dc_X3_hoursAwake 13 rfl) (by decide) ?_
    refine gS_PI (As := [.int ((sI σ 26 (ix x1)) - x2), .int (24 : Int32)]) (st := []) hX (dc_X3_hoursAwake 14 rfl) ml_X3_73 (con_J9_floorMod_7cf53 hO hΩ ((sI σ 26 (ix x1)) - x2) (24 : Int32) σ) rfl rfl ⟨by decide, by decide⟩ ⟨rfl, rfl⟩ ⟨Nat.zero_le _, Nat.zero_le _⟩ (Nat.le_of_ble_eq_true rfl) (fun r8 _ => ?_)
    exact g_sub [] rfl (c_X3_hoursAwake_27 hX hO hΩ σ (r8))
def f_X3_hoursAwake (x1 : Int32) (x2 : Int32) (σ : MS) : Option (Int32) := b_X3_hoursAwake_0  x1 x2 σ
theorem con_X3_hoursAwake {Ω : OM} (hO : OKO Ω) (hΩ : oSH Ω = SHX) (x1 : Int32) (x2 : Int32) (σ : MS)  : Con Ω yX3_hoursAwake cX3_hoursAwake 3 (some .int) rm_X3_hoursAwake (emPI σ) [.ref 23, .int x1, .int x2] σ (f_X3_hoursAwake x1 x2 σ) :=
  con_of hO (by decide +kernel) (Nat.le_of_ble_eq_true rfl) rfl (fun X hX _ => c_X3_hoursAwake_0 hX hO hΩ   σ x1 x2)
def it_X8_sneakedBit : List (Nat × Instr × Nat × Nat) := [(0, .aload_n 0, 1, 1), (1, .getfield 27, 3, 4), (4, .iload_n 1, 1, 5), (5, .ishr, 1, 6), (6, .iconst 1, 1, 7), (7, .iand, 1, 8), (8, .ireturn, 1, 9)]
theorem id_X8_sneakedBit : ∀ q ∈ it_X8_sneakedBit, decode cX8_sneakedBit q.1 = .ok (q.2.1, q.2.2.1) ∧ q.1 + q.2.2.1 = q.2.2.2 := by decide +kernel
theorem dc_X8_sneakedBit {pc : Nat} {i : Instr} {n pc' : Nat} (j : Nat) (h : it_X8_sneakedBit[j]? = some (pc, i, n, pc')) : Dc cX8_sneakedBit pc i n pc' := dc_of id_X8_sneakedBit j h
abbrev rm_X8_sneakedBit : Room := { frames := 0, cells := 0, slots := 0, locals := 0 }
def b_X8_sneakedBit_0 (a0 : Nat)  (x1 : Int32)  (σ : MS) : Option (Int32) := some (((sI σ a0 3) >>> (x1 &&& 31)) &&& (1 : Int32))
set_option maxHeartbeats 4000000 in
set_option maxRecDepth 20000 in
theorem c_X8_sneakedBit_0 {X : CX} {Ω : OM} (hX : CF X Ω RX8 cX8_sneakedBit 2 (some .int) rm_X8_sneakedBit) (hO : OKO Ω) (hΩ : oSH Ω = SHX) (a0 : Nat) (ha0 : sRt Ω a0 shState) (σ : MS)  (x1 : Int32)    : GE X Ω 2 0 0 (emPI σ) 0 0 0 [(0, .ref a0), (1, .int x1)] [] σ (b_X8_sneakedBit_0 a0 x1 σ) := by
  unfold b_X8_sneakedBit_0
  refine g_aload_n hX (dc_X8_sneakedBit 0 rfl) rfl 0 rfl ?_
  refine g_getI hX (dc_X8_sneakedBit 1 rfl) fl_X8_27 (by decide) rfl (ha0.tf 0 rfl) ?_
  refine g_iload_n hX (dc_X8_sneakedBit 2 rfl) rfl 1 rfl ?_
  refine g_ishr hX (dc_X8_sneakedBit 3 rfl) ?_
  refine g_iconst (w := (1 : Int32)) hX (dc_X8_sneakedBit 4 rfl) (by decide) ?_
  refine g_iand hX (dc_X8_sneakedBit 5 rfl) ?_
  exact g_iret hX (dc_X8_sneakedBit 6 rfl) rfl rfl (Nat.le_refl _) (Nat.le_refl _)
def f_X8_sneakedBit (a0 : Nat) (x1 : Int32) (σ : MS) : Option (Int32) := b_X8_sneakedBit_0 a0 x1 σ
theorem con_X8_sneakedBit {Ω : OM} (hO : OKO Ω) (hΩ : oSH Ω = SHX) (a0 : Nat) (x1 : Int32) (σ : MS) (ha0 : sRt Ω a0 shState) : Con Ω yX8_sneakedBit cX8_sneakedBit 2 (some .int) rm_X8_sneakedBit (emPI σ) [.ref a0, .int x1] σ (f_X8_sneakedBit a0 x1 σ) :=
  con_of hO (by decide +kernel) (Nat.le_of_ble_eq_true rfl) rfl (fun X hX _ => c_X8_sneakedBit_0 hX hO hΩ a0 ha0 σ x1)
def it_X1_wordOf : List (Nat × Instr × Nat × Nat) := [(0, .iload_n 1, 1, 1), (1, .tableswitch 168 0 10 #[59, 63, 66, 77, 96, 115, 124, 132, 140, 146, 161], 59, 60), (60, .iload 4, 2, 62), (62, .i2l, 1, 63), (63, .lreturn, 1, 64), (64, .iload_n 3, 1, 65), (65, .i2l, 1, 66), (66, .lreturn, 1, 67), (67, .aload_n 0, 1, 68), (68, .getfield 21, 3, 71), (71, .getfield 68, 3, 74), (74, .iload_n 3, 1, 75), (75, .iaload, 1, 76), (76, .i2l, 1, 77), (77, .lreturn, 1, 78), (78, .aload_n 0, 1, 79), (79, .getfield 21, 3, 82), (82, .getfield 65, 3, 85), (85, .aload_n 0, 1, 86), (86, .getfield 21, 3, 89), (89, .getfield 68, 3, 92), (92, .iload_n 3, 1, 93), (93, .iaload, 1, 94), (94, .iaload, 1, 95), (95, .i2l, 1, 96), (96, .lreturn, 1, 97), (97, .aload_n 0, 1, 98), (98, .getfield 21, 3, 101), (101, .getfield 121, 3, 104), (104, .aload_n 0, 1, 105), (105, .getfield 21, 3, 108), (108, .getfield 68, 3, 111), (111, .iload_n 3, 1, 112), (112, .iaload, 1, 113), (113, .iaload, 1, 114), (114, .i2l, 1, 115), (115, .lreturn, 1, 116), (116, .aload_n 2, 1, 117), (117, .getfield 71, 3, 120), (120, .iload 4, 2, 122), (122, .iaload, 1, 123), (123, .i2l, 1, 124), (124, .lreturn, 1, 125), (125, .aload_n 2, 1, 126), (126, .iload 4, 2, 128), (128, .invokevirtual 97, 3, 131), (131, .i2l, 1, 132), (132, .lreturn, 1, 133), (133, .aload_n 0, 1, 134), (134, .iload 4, 2, 136), (136, .invokevirtual 100, 3, 139), (139, .i2l, 1, 140), (140, .lreturn, 1, 141), (141, .aload_n 2, 1, 142), (142, .getfield 40, 3, 145), (145, .i2l, 1, 146), (146, .lreturn, 1, 147), (147, .aload_n 0, 1, 148), (148, .getfield 21, 3, 151), (151, .iload 4, 2, 153), (153, .aload_n 2, 1, 154), (154, .getfield 40, 3, 157), (157, .invokevirtual 124, 3, 160), (160, .i2l, 1, 161), (161, .lreturn, 1, 162), (162, .aload_n 2, 1, 163), (163, .iload_n 3, 1, 164), (164, .invokevirtual 80, 3, 167), (167, .i2l, 1, 168), (168, .lreturn, 1, 169), (169, .aload_n 2, 1, 170), (170, .getfield 55, 3, 173), (173, .iload_n 3, 1, 174), (174, .iaload, 1, 175), (175, .i2l, 1, 176), (176, .lreturn, 1, 177)]
theorem id_X1_wordOf : ∀ q ∈ it_X1_wordOf, decode cX1_wordOf q.1 = .ok (q.2.1, q.2.2.1) ∧ q.1 + q.2.2.1 = q.2.2.2 := by decide +kernel
theorem dc_X1_wordOf {pc : Nat} {i : Instr} {n pc' : Nat} (j : Nat) (h : it_X1_wordOf[j]? = some (pc, i, n, pc')) : Dc cX1_wordOf pc i n pc' := dc_of id_X1_wordOf j h
abbrev rm_X1_wordOf : Room := { frames := 2, cells := 0, slots := 0, locals := 44 }
def b_X1_wordOf_0 (a2 : Nat)  (x1 : Int32) (x3 : Int32) (x4 : Int32)  (σ : MS) : Option (Int64) := (if x1 = (0 : Int32) then some (x4).toInt64 else (if x1 = (1 : Int32) then some (x3).toInt64 else (if x1 = (2 : Int32) then chk (inb x3 6) (some ((sI σ 29 (ix x3))).toInt64) else (if x1 = (3 : Int32) then chk (inb x3 6) (chk (inb (sI σ 29 (ix x3)) 5) (some ((sI σ 25 (ix (sI σ 29 (ix x3))))).toInt64)) else (if x1 = (4 : Int32) then chk (inb x3 6) (chk (inb (sI σ 29 (ix x3)) 5) (some ((sI σ 24 (ix (sI σ 29 (ix x3))))).toInt64)) else (if x1 = (5 : Int32) then chk (inb x4 4) (some ((sI σ (a2 + 3) (ix x4))).toInt64) else (if x1 = (6 : Int32) then (f_X8_load a2 x4 σ).bind (fun r40 => some (r40).toInt64) else (if x1 = (7 : Int32) then (f_X1_handsOf x4 σ).bind (fun r41 => some (r41).toInt64) else (if x1 = (8 : Int32) then some ((sI σ a2 5)).toInt64 else (if x1 = (9 : Int32) then (f_X3_hoursAwake x4 (sI σ a2 5) σ).bind (fun r42 => some (r42).toInt64) else (if x1 = (10 : Int32) then (f_X8_sneakedBit a2 x3 σ).bind (fun r43 => some (r43).toInt64) else chk (inb x3 6) (some ((sI σ (a2 + 2) (ix x3))).toInt64))))))))))))
set_option maxHeartbeats 4000000 in
set_option maxRecDepth 20000 in
theorem c_X1_wordOf_0 {X : CX} {Ω : OM} (hX : CF X Ω RX1 cX1_wordOf 5 (some .long) rm_X1_wordOf) (hO : OKO Ω) (hΩ : oSH Ω = SHX) (a2 : Nat) (ha2 : sRt Ω a2 shState) (σ : MS)  (x1 : Int32) (x3 : Int32) (x4 : Int32)    : GE X Ω 5 0 0 (emPL σ) 0 0 0 [(0, .ref 44), (1, .int x1), (2, .ref a2), (3, .int x3), (4, .int x4)] [] σ (b_X1_wordOf_0 a2 x1 x3 x4 σ) := by
  unfold b_X1_wordOf_0
  refine g_iload_n hX (dc_X1_wordOf 0 rfl) rfl 1 rfl ?_
  refine g_ite (fun h23 => ?_) (fun h23 => ?_)
  · refine g_tsIn (off := 59) (tgt := 60) hX (dc_X1_wordOf 1 rfl) (by rw [h23]; decide) (by rw [h23]; decide) (by rw [h23]; rfl) (by decide) ?_
    refine g_iload hX (dc_X1_wordOf 2 rfl) 4 rfl ?_
    refine g_i2l hX (dc_X1_wordOf 3 rfl) ?_
    exact g_lret hX (dc_X1_wordOf 4 rfl) rfl (Nat.le_refl _) (Nat.le_refl _)
  · refine g_ite (fun h24 => ?_) (fun h24 => ?_)
    · refine g_tsIn (off := 63) (tgt := 64) hX (dc_X1_wordOf 1 rfl) (by rw [h24]; decide) (by rw [h24]; decide) (by rw [h24]; rfl) (by decide) ?_
      refine g_iload_n hX (dc_X1_wordOf 5 rfl) rfl 3 rfl ?_
      refine g_i2l hX (dc_X1_wordOf 6 rfl) ?_
      exact g_lret hX (dc_X1_wordOf 7 rfl) rfl (Nat.le_refl _) (Nat.le_refl _)
    · refine g_ite (fun h25 => ?_) (fun h25 => ?_)
      · refine g_tsIn (off := 66) (tgt := 67) hX (dc_X1_wordOf 1 rfl) (by rw [h25]; decide) (by rw [h25]; decide) (by rw [h25]; rfl) (by decide) ?_
        refine g_aload_n hX (dc_X1_wordOf 8 rfl) rfl 0 rfl ?_
        refine g_getF (q := 23) hX (dc_X1_wordOf 9 rfl) fl_X1_21 (by decide) rfl (stS hΩ 44 rfl) rfl ?_
        refine g_getF (q := 29) hX (dc_X1_wordOf 10 rfl) fl_X1_68 (by decide) rfl (stS hΩ 23 rfl) rfl ?_
        refine g_iload_n hX (dc_X1_wordOf 11 rfl) rfl 3 rfl ?_
        refine g_chk (fun hc34 => ?_)
        refine g_iald hX (dc_X1_wordOf 12 rfl) (stS hΩ 29 rfl) hc34 rfl ?_
        refine g_i2l hX (dc_X1_wordOf 13 rfl) ?_
        exact g_lret hX (dc_X1_wordOf 14 rfl) rfl (Nat.le_refl _) (Nat.le_refl _)
      · refine g_ite (fun h26 => ?_) (fun h26 => ?_)
        · refine g_tsIn (off := 77) (tgt := 78) hX (dc_X1_wordOf 1 rfl) (by rw [h26]; decide) (by rw [h26]; decide) (by rw [h26]; rfl) (by decide) ?_
          refine g_aload_n hX (dc_X1_wordOf 15 rfl) rfl 0 rfl ?_
          refine g_getF (q := 23) hX (dc_X1_wordOf 16 rfl) fl_X1_21 (by decide) rfl (stS hΩ 44 rfl) rfl ?_
          refine g_getF (q := 25) hX (dc_X1_wordOf 17 rfl) fl_X1_65 (by decide) rfl (stS hΩ 23 rfl) rfl ?_
          refine g_aload_n hX (dc_X1_wordOf 18 rfl) rfl 0 rfl ?_
          refine g_getF (q := 23) hX (dc_X1_wordOf 19 rfl) fl_X1_21 (by decide) rfl (stS hΩ 44 rfl) rfl ?_
          refine g_getF (q := 29) hX (dc_X1_wordOf 20 rfl) fl_X1_68 (by decide) rfl (stS hΩ 23 rfl) rfl ?_
          refine g_iload_n hX (dc_X1_wordOf 21 rfl) rfl 3 rfl ?_
          refine g_chk (fun hc35 => ?_)
          refine g_iald hX (dc_X1_wordOf 22 rfl) (stS hΩ 29 rfl) hc35 rfl ?_
          refine g_chk (fun hc36 => ?_)
          refine g_iald hX (dc_X1_wordOf 23 rfl) (stS hΩ 25 rfl) hc36 rfl ?_
          refine g_i2l hX (dc_X1_wordOf 24 rfl) ?_
          exact g_lret hX (dc_X1_wordOf 25 rfl) rfl (Nat.le_refl _) (Nat.le_refl _)
        · refine g_ite (fun h27 => ?_) (fun h27 => ?_)
          · refine g_tsIn (off := 96) (tgt := 97) hX (dc_X1_wordOf 1 rfl) (by rw [h27]; decide) (by rw [h27]; decide) (by rw [h27]; rfl) (by decide) ?_
            refine g_aload_n hX (dc_X1_wordOf 26 rfl) rfl 0 rfl ?_
            refine g_getF (q := 23) hX (dc_X1_wordOf 27 rfl) fl_X1_21 (by decide) rfl (stS hΩ 44 rfl) rfl ?_
            refine g_getF (q := 24) hX (dc_X1_wordOf 28 rfl) fl_X1_121 (by decide) rfl (stS hΩ 23 rfl) rfl ?_
            refine g_aload_n hX (dc_X1_wordOf 29 rfl) rfl 0 rfl ?_
            refine g_getF (q := 23) hX (dc_X1_wordOf 30 rfl) fl_X1_21 (by decide) rfl (stS hΩ 44 rfl) rfl ?_
            refine g_getF (q := 29) hX (dc_X1_wordOf 31 rfl) fl_X1_68 (by decide) rfl (stS hΩ 23 rfl) rfl ?_
            refine g_iload_n hX (dc_X1_wordOf 32 rfl) rfl 3 rfl ?_
            refine g_chk (fun hc37 => ?_)
            refine g_iald hX (dc_X1_wordOf 33 rfl) (stS hΩ 29 rfl) hc37 rfl ?_
            refine g_chk (fun hc38 => ?_)
            refine g_iald hX (dc_X1_wordOf 34 rfl) (stS hΩ 24 rfl) hc38 rfl ?_
            refine g_i2l hX (dc_X1_wordOf 35 rfl) ?_
            exact g_lret hX (dc_X1_wordOf 36 rfl) rfl (Nat.le_refl _) (Nat.le_refl _)
          · refine g_ite (fun h28 => ?_) (fun h28 => ?_)
            · refine g_tsIn (off := 115) (tgt := 116) hX (dc_X1_wordOf 1 rfl) (by rw [h28]; decide) (by rw [h28]; decide) (by rw [h28]; rfl) (by decide) ?_
              refine g_aload_n hX (dc_X1_wordOf 37 rfl) rfl 2 rfl ?_
              refine g_getF (q := (a2 + 3)) hX (dc_X1_wordOf 38 rfl) fl_X1_71 (by decide) rfl (ha2.tf 0 rfl) rfl ?_
              refine g_iload hX (dc_X1_wordOf 39 rfl) 4 rfl ?_
              refine g_chk (fun hc39 => ?_)
              refine g_iald hX (dc_X1_wordOf 40 rfl) (ha2.tf 3 rfl) hc39 rfl ?_
              refine g_i2l hX (dc_X1_wordOf 41 rfl) ?_
              exact g_lret hX (dc_X1_wordOf 42 rfl) rfl (Nat.le_refl _) (Nat.le_refl _)
            · refine g_ite (fun h29 => ?_) (fun h29 => ?_)
              · refine g_tsIn (off := 124) (tgt := 125) hX (dc_X1_wordOf 1 rfl) (by rw [h29]; decide) (by rw [h29]; decide) (by rw [h29]; rfl) (by decide) ?_
                refine g_aload_n hX (dc_X1_wordOf 43 rfl) rfl 2 rfl ?_
                refine g_iload hX (dc_X1_wordOf 44 rfl) 4 rfl ?_
                refine gV_PI (As := [.int x4]) (st := []) hX (dc_X1_wordOf 45 rfl) ml_X1_97 (con_X8_load hO hΩ a2 x4 σ ha2) (ha2.tf 0 rfl) rfl rfl ⟨by decide, by decide⟩ ⟨rfl, rfl⟩ ⟨Nat.zero_le _, Nat.zero_le _⟩ (Nat.le_of_ble_eq_true rfl) (fun r40 _ => ?_)
                refine g_i2l hX (dc_X1_wordOf 46 rfl) ?_
                exact g_lret hX (dc_X1_wordOf 47 rfl) rfl (Nat.le_refl _) (Nat.le_refl _)
              · refine g_ite (fun h30 => ?_) (fun h30 => ?_)
                · refine g_tsIn (off := 132) (tgt := 133) hX (dc_X1_wordOf 1 rfl) (by rw [h30]; decide) (by rw [h30]; decide) (by rw [h30]; rfl) (by decide) ?_
                  refine g_aload_n hX (dc_X1_wordOf 48 rfl) rfl 0 rfl ?_
                  refine g_iload hX (dc_X1_wordOf 49 rfl) 4 rfl ?_
                  refine gV_PI (As := [.int x4]) (st := []) hX (dc_X1_wordOf 50 rfl) ml_X1_100 (con_X1_handsOf hO hΩ x4 σ) (stS hΩ 44 rfl) rfl rfl ⟨by decide, by decide⟩ ⟨rfl, rfl⟩ ⟨Nat.zero_le _, Nat.zero_le _⟩ (Nat.le_of_ble_eq_true rfl) (fun r41 _ => ?_)
                  refine g_i2l hX (dc_X1_wordOf 51 rfl) ?_
                  exact g_lret hX (dc_X1_wordOf 52 rfl) rfl (Nat.le_refl _) (Nat.le_refl _)
                · refine g_ite (fun h31 => ?_) (fun h31 => ?_)
                  · refine g_tsIn (off := 140) (tgt := 141) hX (dc_X1_wordOf 1 rfl) (by rw [h31]; decide) (by rw [h31]; decide) (by rw [h31]; rfl) (by decide) ?_
                    refine g_aload_n hX (dc_X1_wordOf 53 rfl) rfl 2 rfl ?_
                    refine g_getI hX (dc_X1_wordOf 54 rfl) fl_X1_40 (by decide) rfl (ha2.tf 0 rfl) ?_
                    refine g_i2l hX (dc_X1_wordOf 55 rfl) ?_
                    exact g_lret hX (dc_X1_wordOf 56 rfl) rfl (Nat.le_refl _) (Nat.le_refl _)
                  · refine g_ite (fun h32 => ?_) (fun h32 => ?_)
                    · refine g_tsIn (off := 146) (tgt := 147) hX (dc_X1_wordOf 1 rfl) (by rw [h32]; decide) (by rw [h32]; decide) (by rw [h32]; rfl) (by decide) ?_
                      refine g_aload_n hX (dc_X1_wordOf 57 rfl) rfl 0 rfl ?_
                      refine g_getF (q := 23) hX (dc_X1_wordOf 58 rfl) fl_X1_21 (by decide) rfl (stS hΩ 44 rfl) rfl ?_
                      refine g_iload hX (dc_X1_wordOf 59 rfl) 4 rfl ?_
                      refine g_aload_n hX (dc_X1_wordOf 60 rfl) rfl 2 rfl ?_
                      refine g_getI hX (dc_X1_wordOf 61 rfl) fl_X1_40 (by decide) rfl (ha2.tf 0 rfl) ?_
                      refine gV_PI (As := [.int x4, .int (sI σ a2 5)]) (st := []) hX (dc_X1_wordOf 62 rfl) ml_X1_124 (con_X3_hoursAwake hO hΩ x4 (sI σ a2 5) σ) (stS hΩ 23 rfl) rfl rfl ⟨by decide, by decide⟩ ⟨rfl, rfl⟩ ⟨Nat.zero_le _, Nat.zero_le _⟩ (Nat.le_of_ble_eq_true rfl) (fun r42 _ => ?_)
                      refine g_i2l hX (dc_X1_wordOf 63 rfl) ?_
                      exact g_lret hX (dc_X1_wordOf 64 rfl) rfl (Nat.le_refl _) (Nat.le_refl _)
                    · refine g_ite (fun h33 => ?_) (fun h33 => ?_)
                      · refine g_tsIn (off := 161) (tgt := 162) hX (dc_X1_wordOf 1 rfl) (by rw [h33]; decide) (by rw [h33]; decide) (by rw [h33]; rfl) (by decide) ?_
                        refine g_aload_n hX (dc_X1_wordOf 65 rfl) rfl 2 rfl ?_
                        refine g_iload_n hX (dc_X1_wordOf 66 rfl) rfl 3 rfl ?_
                        refine gV_PI (As := [.int x3]) (st := []) hX (dc_X1_wordOf 67 rfl) ml_X1_80 (con_X8_sneakedBit hO hΩ a2 x3 σ ha2) (ha2.tf 0 rfl) rfl rfl ⟨by decide, by decide⟩ ⟨rfl, rfl⟩ ⟨Nat.zero_le _, Nat.zero_le _⟩ (Nat.le_of_ble_eq_true rfl) (fun r43 _ => ?_)
                        refine g_i2l hX (dc_X1_wordOf 68 rfl) ?_
                        exact g_lret hX (dc_X1_wordOf 69 rfl) rfl (Nat.le_refl _) (Nat.le_refl _)
                      · refine g_tsOut (tgt := 169) hX (dc_X1_wordOf 1 rfl) (by have e0 := i32ne h23 (k := 0) (by decide); have e1 := i32ne h24 (k := 1) (by decide); have e2 := i32ne h25 (k := 2) (by decide); have e3 := i32ne h26 (k := 3) (by decide); have e4 := i32ne h27 (k := 4) (by decide); have e5 := i32ne h28 (k := 5) (by decide); have e6 := i32ne h29 (k := 6) (by decide); have e7 := i32ne h30 (k := 7) (by decide); have e8 := i32ne h31 (k := 8) (by decide); have e9 := i32ne h32 (k := 9) (by decide); have e10 := i32ne h33 (k := 10) (by decide); omega) (by decide) ?_
                        refine g_aload_n hX (dc_X1_wordOf 70 rfl) rfl 2 rfl ?_
                        refine g_getF (q := (a2 + 2)) hX (dc_X1_wordOf 71 rfl) fl_X1_55 (by decide) rfl (ha2.tf 0 rfl) rfl ?_
                        refine g_iload_n hX (dc_X1_wordOf 72 rfl) rfl 3 rfl ?_
                        refine g_chk (fun hc44 => ?_)
                        refine g_iald hX (dc_X1_wordOf 73 rfl) (ha2.tf 2 rfl) hc44 rfl ?_
                        refine g_i2l hX (dc_X1_wordOf 74 rfl) ?_
                        exact g_lret hX (dc_X1_wordOf 75 rfl) rfl (Nat.le_refl _) (Nat.le_refl _)
def f_X1_wordOf (x1 : Int32) (a2 : Nat) (x3 : Int32) (x4 : Int32) (σ : MS) : Option (Int64) := b_X1_wordOf_0 a2 x1 x3 x4 σ
theorem con_X1_wordOf {Ω : OM} (hO : OKO Ω) (hΩ : oSH Ω = SHX) (x1 : Int32) (a2 : Nat) (x3 : Int32) (x4 : Int32) (σ : MS) (ha2 : sRt Ω a2 shState) : Con Ω yX1_wordOf cX1_wordOf 5 (some .long) rm_X1_wordOf (emPL σ) [.ref 44, .int x1, .ref a2, .int x3, .int x4] σ (f_X1_wordOf x1 a2 x3 x4 σ) :=
  con_of hO (by decide +kernel) (Nat.le_of_ble_eq_true rfl) rfl (fun X hX _ => c_X1_wordOf_0 hX hO hΩ a2 ha2 σ x1 x3 x4)
def it_X6_compute : List (Nat × Instr × Nat × Nat) := [(0, .iload_n 0, 1, 1), (1, .tableswitch 167 2 13 #[63, 67, 81, 95, 99, 103, 115, 127, 139, 151, 167, 163], 63, 64), (64, .lload_n 1, 1, 65), (65, .lload_n 3, 1, 66), (66, .lmul, 1, 67), (67, .lreturn, 1, 68), (68, .lload_n 3, 1, 69), (69, .lconst 0, 1, 70), (70, .lcmp, 1, 71), (71, .ifCond .ne 7, 3, 74), (74, .lconst 0, 1, 75), (75, .goto 6, 3, 78), (78, .lload_n 1, 1, 79), (79, .lload_n 3, 1, 80), (80, .ldiv, 1, 81), (81, .lreturn, 1, 82), (82, .lload_n 3, 1, 83), (83, .lconst 0, 1, 84), (84, .lcmp, 1, 85), (85, .ifCond .ne 7, 3, 88), (88, .lconst 0, 1, 89), (89, .goto 6, 3, 92), (92, .lload_n 1, 1, 93), (93, .lload_n 3, 1, 94), (94, .lrem, 1, 95), (95, .lreturn, 1, 96), (96, .lload_n 1, 1, 97), (97, .lload_n 3, 1, 98), (98, .ladd, 1, 99), (99, .lreturn, 1, 100), (100, .lload_n 1, 1, 101), (101, .lload_n 3, 1, 102), (102, .lsub, 1, 103), (103, .lreturn, 1, 104), (104, .lload_n 1, 1, 105), (105, .lload_n 3, 1, 106), (106, .lcmp, 1, 107), (107, .ifCond .ge 7, 3, 110), (110, .lconst 1, 1, 111), (111, .goto 4, 3, 114), (114, .lconst 0, 1, 115), (115, .lreturn, 1, 116), (116, .lload_n 1, 1, 117), (117, .lload_n 3, 1, 118), (118, .lcmp, 1, 119), (119, .ifCond .gt 7, 3, 122), (122, .lconst 1, 1, 123), (123, .goto 4, 3, 126), (126, .lconst 0, 1, 127), (127, .lreturn, 1, 128), (128, .lload_n 1, 1, 129), (129, .lload_n 3, 1, 130), (130, .lcmp, 1, 131), (131, .ifCond .ne 7, 3, 134), (134, .lconst 1, 1, 135), (135, .goto 4, 3, 138), (138, .lconst 0, 1, 139), (139, .lreturn, 1, 140), (140, .lload_n 1, 1, 141), (141, .lload_n 3, 1, 142), (142, .lcmp, 1, 143), (143, .ifCond .lt 7, 3, 146), (146, .lconst 1, 1, 147), (147, .goto 4, 3, 150), (150, .lconst 0, 1, 151), (151, .lreturn, 1, 152), (152, .lload_n 1, 1, 153), (153, .lload_n 3, 1, 154), (154, .lcmp, 1, 155), (155, .ifCond .le 7, 3, 158), (158, .lconst 1, 1, 159), (159, .goto 4, 3, 162), (162, .lconst 0, 1, 163), (163, .lreturn, 1, 164), (164, .lload_n 1, 1, 165), (165, .lload_n 3, 1, 166), (166, .land, 1, 167), (167, .lreturn, 1, 168), (168, .lload_n 1, 1, 169), (169, .lload_n 3, 1, 170), (170, .lor, 1, 171), (171, .lreturn, 1, 172)]
theorem id_X6_compute : ∀ q ∈ it_X6_compute, decode cX6_compute q.1 = .ok (q.2.1, q.2.2.1) ∧ q.1 + q.2.2.1 = q.2.2.2 := by decide +kernel
theorem dc_X6_compute {pc : Nat} {i : Instr} {n pc' : Nat} (j : Nat) (h : it_X6_compute[j]? = some (pc, i, n, pc')) : Dc cX6_compute pc i n pc' := dc_of id_X6_compute j h
abbrev rm_X6_compute : Room := { frames := 0, cells := 0, slots := 0, locals := 0 }
def b_X6_compute_163    (s0 : Int64)  : Option (Int64) := some s0
set_option maxHeartbeats 4000000 in
set_option maxRecDepth 20000 in
theorem c_X6_compute_163 {X : CX} {Ω : OM} (hX : CF X Ω RX6 cX6_compute 5 (some .long) rm_X6_compute) (hO : OKO Ω) (hΩ : oSH Ω = SHX)   (σ : MS)   (s0 : Int64)   : GE X Ω 5 0 0 (emPL σ) 0 0 163 [] [.long s0] σ (b_X6_compute_163  s0) := by
  unfold b_X6_compute_163
  exact g_lret hX (dc_X6_compute 73 rfl) rfl (Nat.le_refl _) (Nat.le_refl _)
def b_X6_compute_151    (s0 : Int64)  : Option (Int64) := some s0
set_option maxHeartbeats 4000000 in
set_option maxRecDepth 20000 in
theorem c_X6_compute_151 {X : CX} {Ω : OM} (hX : CF X Ω RX6 cX6_compute 5 (some .long) rm_X6_compute) (hO : OKO Ω) (hΩ : oSH Ω = SHX)   (σ : MS)   (s0 : Int64)   : GE X Ω 5 0 0 (emPL σ) 0 0 151 [] [.long s0] σ (b_X6_compute_151  s0) := by
  unfold b_X6_compute_151
  exact g_lret hX (dc_X6_compute 65 rfl) rfl (Nat.le_refl _) (Nat.le_refl _)
def b_X6_compute_139    (s0 : Int64)  : Option (Int64) := some s0
set_option maxHeartbeats 4000000 in
set_option maxRecDepth 20000 in
theorem c_X6_compute_139 {X : CX} {Ω : OM} (hX : CF X Ω RX6 cX6_compute 5 (some .long) rm_X6_compute) (hO : OKO Ω) (hΩ : oSH Ω = SHX)   (σ : MS)   (s0 : Int64)   : GE X Ω 5 0 0 (emPL σ) 0 0 139 [] [.long s0] σ (b_X6_compute_139  s0) := by
  unfold b_X6_compute_139
  exact g_lret hX (dc_X6_compute 57 rfl) rfl (Nat.le_refl _) (Nat.le_refl _)
def b_X6_compute_127    (s0 : Int64)  : Option (Int64) := some s0
set_option maxHeartbeats 4000000 in
set_option maxRecDepth 20000 in
theorem c_X6_compute_127 {X : CX} {Ω : OM} (hX : CF X Ω RX6 cX6_compute 5 (some .long) rm_X6_compute) (hO : OKO Ω) (hΩ : oSH Ω = SHX)   (σ : MS)   (s0 : Int64)   : GE X Ω 5 0 0 (emPL σ) 0 0 127 [] [.long s0] σ (b_X6_compute_127  s0) := by
  unfold b_X6_compute_127
  exact g_lret hX (dc_X6_compute 49 rfl) rfl (Nat.le_refl _) (Nat.le_refl _)
def b_X6_compute_115    (s0 : Int64)  : Option (Int64) := some s0
set_option maxHeartbeats 4000000 in
set_option maxRecDepth 20000 in
theorem c_X6_compute_115 {X : CX} {Ω : OM} (hX : CF X Ω RX6 cX6_compute 5 (some .long) rm_X6_compute) (hO : OKO Ω) (hΩ : oSH Ω = SHX)   (σ : MS)   (s0 : Int64)   : GE X Ω 5 0 0 (emPL σ) 0 0 115 [] [.long s0] σ (b_X6_compute_115  s0) := by
  unfold b_X6_compute_115
  exact g_lret hX (dc_X6_compute 41 rfl) rfl (Nat.le_refl _) (Nat.le_refl _)
def b_X6_compute_95    (s0 : Int64)  : Option (Int64) := some s0
set_option maxHeartbeats 4000000 in
set_option maxRecDepth 20000 in
theorem c_X6_compute_95 {X : CX} {Ω : OM} (hX : CF X Ω RX6 cX6_compute 5 (some .long) rm_X6_compute) (hO : OKO Ω) (hΩ : oSH Ω = SHX)   (σ : MS)   (s0 : Int64)   : GE X Ω 5 0 0 (emPL σ) 0 0 95 [] [.long s0] σ (b_X6_compute_95  s0) := by
  unfold b_X6_compute_95
  exact g_lret hX (dc_X6_compute 25 rfl) rfl (Nat.le_refl _) (Nat.le_refl _)
def b_X6_compute_81    (s0 : Int64)  : Option (Int64) := some s0
set_option maxHeartbeats 4000000 in
set_option maxRecDepth 20000 in
theorem c_X6_compute_81 {X : CX} {Ω : OM} (hX : CF X Ω RX6 cX6_compute 5 (some .long) rm_X6_compute) (hO : OKO Ω) (hΩ : oSH Ω = SHX)   (σ : MS)   (s0 : Int64)   : GE X Ω 5 0 0 (emPL σ) 0 0 81 [] [.long s0] σ (b_X6_compute_81  s0) := by
  unfold b_X6_compute_81
  exact g_lret hX (dc_X6_compute 15 rfl) rfl (Nat.le_refl _) (Nat.le_refl _)
def b_X6_compute_0   (x0 : Int32) (x1 : Int64) (x2 : Int64)   : Option (Int64) := (if x0 = (2 : Int32) then some (x1 * x2) else (if x0 = (3 : Int32) then (if (lg_cmp x2 (0 : Int64)) = 0 then (b_X6_compute_81 ((0 : Int64))) else chk (¬ x2 = 0) ((b_X6_compute_81 ((x1 / x2))))) else (if x0 = (4 : Int32) then (if (lg_cmp x2 (0 : Int64)) = 0 then (b_X6_compute_95 ((0 : Int64))) else chk (¬ x2 = 0) ((b_X6_compute_95 ((x1 - x1 / x2 * x2))))) else (if x0 = (5 : Int32) then some (x1 + x2) else (if x0 = (6 : Int32) then some (x1 - x2) else (if x0 = (7 : Int32) then (if 0 ≤ (lg_cmp x1 x2) then (b_X6_compute_115 ((0 : Int64))) else (b_X6_compute_115 ((1 : Int64)))) else (if x0 = (8 : Int32) then (if 0 < (lg_cmp x1 x2) then (b_X6_compute_127 ((0 : Int64))) else (b_X6_compute_127 ((1 : Int64)))) else (if x0 = (9 : Int32) then (if (lg_cmp x1 x2) = 0 then (b_X6_compute_139 ((1 : Int64))) else (b_X6_compute_139 ((0 : Int64)))) else (if x0 = (10 : Int32) then (if (lg_cmp x1 x2) < 0 then (b_X6_compute_151 ((0 : Int64))) else (b_X6_compute_151 ((1 : Int64)))) else (if x0 = (11 : Int32) then (if (lg_cmp x1 x2) ≤ 0 then (b_X6_compute_163 ((0 : Int64))) else (b_X6_compute_163 ((1 : Int64)))) else (if x0 = (12 : Int32) then some (x1 ||| x2) else (if x0 = (13 : Int32) then some (x1 &&& x2) else some (x1 ||| x2)))))))))))))
set_option maxHeartbeats 4000000 in
set_option maxRecDepth 20000 in
theorem c_X6_compute_0 {X : CX} {Ω : OM} (hX : CF X Ω RX6 cX6_compute 5 (some .long) rm_X6_compute) (hO : OKO Ω) (hΩ : oSH Ω = SHX)   (σ : MS)  (x0 : Int32) (x1 : Int64) (x2 : Int64)    : GE X Ω 5 0 0 (emPL σ) 0 0 0 [(0, .int x0), (1, .long x1), (3, .long x2)] [] σ (b_X6_compute_0  x0 x1 x2) := by
  unfold b_X6_compute_0
  refine g_iload_n hX (dc_X6_compute 0 rfl) rfl 0 rfl ?_
  refine g_ite (fun h22 => ?_) (fun h22 => ?_)
  · refine g_tsIn (off := 63) (tgt := 64) hX (dc_X6_compute 1 rfl) (by rw [h22]; decide) (by rw [h22]; decide) (by rw [h22]; rfl) (by decide) ?_
    refine g_lload_n hX (dc_X6_compute 2 rfl) rfl 1 rfl ?_
    refine g_lload_n hX (dc_X6_compute 3 rfl) rfl 2 rfl ?_
    refine g_lmul hX (dc_X6_compute 4 rfl) ?_
    exact g_lret hX (dc_X6_compute 5 rfl) rfl (Nat.le_refl _) (Nat.le_refl _)
  · refine g_ite (fun h23 => ?_) (fun h23 => ?_)
    · refine g_tsIn (off := 67) (tgt := 68) hX (dc_X6_compute 1 rfl) (by rw [h23]; decide) (by rw [h23]; decide) (by rw [h23]; rfl) (by decide) ?_
      refine g_lload_n hX (dc_X6_compute 6 rfl) rfl 2 rfl ?_
      refine g_lconst (w := (0 : Int64)) hX (dc_X6_compute 7 rfl) (by decide) ?_
      refine g_lcmp hX (dc_X6_compute 8 rfl) ?_
      refine g_if_ne (tgt := 78) hX (dc_X6_compute 9 rfl) (by decide) (fun h34 => ?_) (fun h34 => ?_)
      · refine g_lconst (w := (0 : Int64)) hX (dc_X6_compute 10 rfl) (by decide) ?_
        refine g_goto (tgt := 81) hX (dc_X6_compute 11 rfl) (by decide) ?_
        exact g_sub [] rfl (c_X6_compute_81 hX hO hΩ σ ((0 : Int64)))
      · refine g_lload_n hX (dc_X6_compute 12 rfl) rfl 1 rfl ?_
        refine g_lload_n hX (dc_X6_compute 13 rfl) rfl 2 rfl ?_
        refine g_chk (fun hc35 => ?_)
        refine g_ldiv hX (dc_X6_compute 14 rfl) hc35 ?_
        exact g_sub [] rfl (c_X6_compute_81 hX hO hΩ σ ((x1 / x2)))
    · refine g_ite (fun h24 => ?_) (fun h24 => ?_)
      · refine g_tsIn (off := 81) (tgt := 82) hX (dc_X6_compute 1 rfl) (by rw [h24]; decide) (by rw [h24]; decide) (by rw [h24]; rfl) (by decide) ?_
        refine g_lload_n hX (dc_X6_compute 16 rfl) rfl 2 rfl ?_
        refine g_lconst (w := (0 : Int64)) hX (dc_X6_compute 17 rfl) (by decide) ?_
        refine g_lcmp hX (dc_X6_compute 18 rfl) ?_
        refine g_if_ne (tgt := 92) hX (dc_X6_compute 19 rfl) (by decide) (fun h36 => ?_) (fun h36 => ?_)
        · refine g_lconst (w := (0 : Int64)) hX (dc_X6_compute 20 rfl) (by decide) ?_
          refine g_goto (tgt := 95) hX (dc_X6_compute 21 rfl) (by decide) ?_
          exact g_sub [] rfl (c_X6_compute_95 hX hO hΩ σ ((0 : Int64)))
        · refine g_lload_n hX (dc_X6_compute 22 rfl) rfl 1 rfl ?_
          refine g_lload_n hX (dc_X6_compute 23 rfl) rfl 2 rfl ?_
          refine g_chk (fun hc37 => ?_)
          refine g_lrem hX (dc_X6_compute 24 rfl) hc37 ?_
          exact g_sub [] rfl (c_X6_compute_95 hX hO hΩ σ ((x1 - x1 / x2 * x2)))
      · refine g_ite (fun h25 => ?_) (fun h25 => ?_)
        · refine g_tsIn (off := 95) (tgt := 96) hX (dc_X6_compute 1 rfl) (by rw [h25]; decide) (by rw [h25]; decide) (by rw [h25]; rfl) (by decide) ?_
          refine g_lload_n hX (dc_X6_compute 26 rfl) rfl 1 rfl ?_
          refine g_lload_n hX (dc_X6_compute 27 rfl) rfl 2 rfl ?_
          refine g_ladd hX (dc_X6_compute 28 rfl) ?_
          exact g_lret hX (dc_X6_compute 29 rfl) rfl (Nat.le_refl _) (Nat.le_refl _)
        · refine g_ite (fun h26 => ?_) (fun h26 => ?_)
          · refine g_tsIn (off := 99) (tgt := 100) hX (dc_X6_compute 1 rfl) (by rw [h26]; decide) (by rw [h26]; decide) (by rw [h26]; rfl) (by decide) ?_
            refine g_lload_n hX (dc_X6_compute 30 rfl) rfl 1 rfl ?_
            refine g_lload_n hX (dc_X6_compute 31 rfl) rfl 2 rfl ?_
            refine g_lsub hX (dc_X6_compute 32 rfl) ?_
            exact g_lret hX (dc_X6_compute 33 rfl) rfl (Nat.le_refl _) (Nat.le_refl _)
          · refine g_ite (fun h27 => ?_) (fun h27 => ?_)
            · refine g_tsIn (off := 103) (tgt := 104) hX (dc_X6_compute 1 rfl) (by rw [h27]; decide) (by rw [h27]; decide) (by rw [h27]; rfl) (by decide) ?_
              refine g_lload_n hX (dc_X6_compute 34 rfl) rfl 1 rfl ?_
              refine g_lload_n hX (dc_X6_compute 35 rfl) rfl 2 rfl ?_
              refine g_lcmp hX (dc_X6_compute 36 rfl) ?_
              refine g_if_ge (tgt := 114) hX (dc_X6_compute 37 rfl) (by decide) (fun h38 => ?_) (fun h38 => ?_)
              · refine g_lconst (w := (0 : Int64)) hX (dc_X6_compute 40 rfl) (by decide) ?_
                exact g_sub [] rfl (c_X6_compute_115 hX hO hΩ σ ((0 : Int64)))
              · refine g_lconst (w := (1 : Int64)) hX (dc_X6_compute 38 rfl) (by decide) ?_
                refine g_goto (tgt := 115) hX (dc_X6_compute 39 rfl) (by decide) ?_
                exact g_sub [] rfl (c_X6_compute_115 hX hO hΩ σ ((1 : Int64)))
            · refine g_ite (fun h28 => ?_) (fun h28 => ?_)
              · refine g_tsIn (off := 115) (tgt := 116) hX (dc_X6_compute 1 rfl) (by rw [h28]; decide) (by rw [h28]; decide) (by rw [h28]; rfl) (by decide) ?_
                refine g_lload_n hX (dc_X6_compute 42 rfl) rfl 1 rfl ?_
                refine g_lload_n hX (dc_X6_compute 43 rfl) rfl 2 rfl ?_
                refine g_lcmp hX (dc_X6_compute 44 rfl) ?_
                refine g_if_gt (tgt := 126) hX (dc_X6_compute 45 rfl) (by decide) (fun h39 => ?_) (fun h39 => ?_)
                · refine g_lconst (w := (0 : Int64)) hX (dc_X6_compute 48 rfl) (by decide) ?_
                  exact g_sub [] rfl (c_X6_compute_127 hX hO hΩ σ ((0 : Int64)))
                · refine g_lconst (w := (1 : Int64)) hX (dc_X6_compute 46 rfl) (by decide) ?_
                  refine g_goto (tgt := 127) hX (dc_X6_compute 47 rfl) (by decide) ?_
                  exact g_sub [] rfl (c_X6_compute_127 hX hO hΩ σ ((1 : Int64)))
              · refine g_ite (fun h29 => ?_) (fun h29 => ?_)
                · refine g_tsIn (off := 127) (tgt := 128) hX (dc_X6_compute 1 rfl) (by rw [h29]; decide) (by rw [h29]; decide) (by rw [h29]; rfl) (by decide) ?_
                  refine g_lload_n hX (dc_X6_compute 50 rfl) rfl 1 rfl ?_
                  refine g_lload_n hX (dc_X6_compute 51 rfl) rfl 2 rfl ?_
                  refine g_lcmp hX (dc_X6_compute 52 rfl) ?_
                  refine g_if_ne (tgt := 138) hX (dc_X6_compute 53 rfl) (by decide) (fun h40 => ?_) (fun h40 => ?_)
                  · refine g_lconst (w := (1 : Int64)) hX (dc_X6_compute 54 rfl) (by decide) ?_
                    refine g_goto (tgt := 139) hX (dc_X6_compute 55 rfl) (by decide) ?_
                    exact g_sub [] rfl (c_X6_compute_139 hX hO hΩ σ ((1 : Int64)))
                  · refine g_lconst (w := (0 : Int64)) hX (dc_X6_compute 56 rfl) (by decide) ?_
                    exact g_sub [] rfl (c_X6_compute_139 hX hO hΩ σ ((0 : Int64)))
                · refine g_ite (fun h30 => ?_) (fun h30 => ?_)
                  · refine g_tsIn (off := 139) (tgt := 140) hX (dc_X6_compute 1 rfl) (by rw [h30]; decide) (by rw [h30]; decide) (by rw [h30]; rfl) (by decide) ?_
                    refine g_lload_n hX (dc_X6_compute 58 rfl) rfl 1 rfl ?_
                    refine g_lload_n hX (dc_X6_compute 59 rfl) rfl 2 rfl ?_
                    refine g_lcmp hX (dc_X6_compute 60 rfl) ?_
                    refine g_if_lt (tgt := 150) hX (dc_X6_compute 61 rfl) (by decide) (fun h41 => ?_) (fun h41 => ?_)
                    · refine g_lconst (w := (0 : Int64)) hX (dc_X6_compute 64 rfl) (by decide) ?_
                      exact g_sub [] rfl (c_X6_compute_151 hX hO hΩ σ ((0 : Int64)))
                    · refine g_lconst (w := (1 : Int64)) hX (dc_X6_compute 62 rfl) (by decide) ?_
                      refine g_goto (tgt := 151) hX (dc_X6_compute 63 rfl) (by decide) ?_
                      exact g_sub [] rfl (c_X6_compute_151 hX hO hΩ σ ((1 : Int64)))
                  · refine g_ite (fun h31 => ?_) (fun h31 => ?_)
                    · refine g_tsIn (off := 151) (tgt := 152) hX (dc_X6_compute 1 rfl) (by rw [h31]; decide) (by rw [h31]; decide) (by rw [h31]; rfl) (by decide) ?_
                      refine g_lload_n hX (dc_X6_compute 66 rfl) rfl 1 rfl ?_
                      refine g_lload_n hX (dc_X6_compute 67 rfl) rfl 2 rfl ?_
                      refine g_lcmp hX (dc_X6_compute 68 rfl) ?_
                      refine g_if_le (tgt := 162) hX (dc_X6_compute 69 rfl) (by decide) (fun h42 => ?_) (fun h42 => ?_)
                      · refine g_lconst (w := (0 : Int64)) hX (dc_X6_compute 72 rfl) (by decide) ?_
                        exact g_sub [] rfl (c_X6_compute_163 hX hO hΩ σ ((0 : Int64)))
                      · refine g_lconst (w := (1 : Int64)) hX (dc_X6_compute 70 rfl) (by decide) ?_
                        refine g_goto (tgt := 163) hX (dc_X6_compute 71 rfl) (by decide) ?_
                        exact g_sub [] rfl (c_X6_compute_163 hX hO hΩ σ ((1 : Int64)))
                    · refine g_ite (fun h32 => ?_) (fun h32 => ?_)
                      · refine g_tsIn (off := 167) (tgt := 168) hX (dc_X6_compute 1 rfl) (by rw [h32]; decide) (by rw [h32]; decide) (by rw [h32]; rfl) (by decide) ?_
                        refine g_lload_n hX (dc_X6_compute 78 rfl) rfl 1 rfl ?_
                        refine g_lload_n hX (dc_X6_compute 79 rfl) rfl 2 rfl ?_
                        refine g_lor hX (dc_X6_compute 80 rfl) ?_
                        exact g_lret hX (dc_X6_compute 81 rfl) rfl (Nat.le_refl _) (Nat.le_refl _)
                      · refine g_ite (fun h33 => ?_) (fun h33 => ?_)
                        · refine g_tsIn (off := 163) (tgt := 164) hX (dc_X6_compute 1 rfl) (by rw [h33]; decide) (by rw [h33]; decide) (by rw [h33]; rfl) (by decide) ?_
                          refine g_lload_n hX (dc_X6_compute 74 rfl) rfl 1 rfl ?_
                          refine g_lload_n hX (dc_X6_compute 75 rfl) rfl 2 rfl ?_
                          refine g_land hX (dc_X6_compute 76 rfl) ?_
                          exact g_lret hX (dc_X6_compute 77 rfl) rfl (Nat.le_refl _) (Nat.le_refl _)
                        · refine g_tsOut (tgt := 168) hX (dc_X6_compute 1 rfl) (by have e0 := i32ne h22 (k := 2) (by decide); have e1 := i32ne h23 (k := 3) (by decide); have e2 := i32ne h24 (k := 4) (by decide); have e3 := i32ne h25 (k := 5) (by decide); have e4 := i32ne h26 (k := 6) (by decide); have e5 := i32ne h27 (k := 7) (by decide); have e6 := i32ne h28 (k := 8) (by decide); have e7 := i32ne h29 (k := 9) (by decide); have e8 := i32ne h30 (k := 10) (by decide); have e9 := i32ne h31 (k := 11) (by decide); have e10 := i32ne h32 (k := 12) (by decide); have e11 := i32ne h33 (k := 13) (by decide); omega) (by decide) ?_
                          refine g_lload_n hX (dc_X6_compute 78 rfl) rfl 1 rfl ?_
                          refine g_lload_n hX (dc_X6_compute 79 rfl) rfl 2 rfl ?_
                          refine g_lor hX (dc_X6_compute 80 rfl) ?_
                          exact g_lret hX (dc_X6_compute 81 rfl) rfl (Nat.le_refl _) (Nat.le_refl _)
def f_X6_compute (x0 : Int32) (x1 : Int64) (x2 : Int64)  : Option (Int64) := b_X6_compute_0  x0 x1 x2 
theorem con_X6_compute {Ω : OM} (hO : OKO Ω) (hΩ : oSH Ω = SHX) (x0 : Int32) (x1 : Int64) (x2 : Int64) (σ : MS)  : Con Ω yX6_compute cX6_compute 5 (some .long) rm_X6_compute (emPL σ) [.int x0, .long x1, .long x2] σ (f_X6_compute x0 x1 x2 ) :=
  con_of hO (by decide +kernel) (Nat.le_of_ble_eq_true rfl) rfl (fun X hX _ => c_X6_compute_0 hX hO hΩ   σ x0 x1 x2)
def it_X1_sumFor : List (Nat × Instr × Nat × Nat) := [(0, .iconst 0, 1, 1), (1, .istore 4, 2, 3), (3, .iconst 0, 1, 4), (4, .istore 5, 2, 6), (6, .iload 5, 2, 8), (8, .aload_n 0, 1, 9), (9, .getfield 25, 3, 12), (12, .getfield 110, 3, 15), (15, .arraylength, 1, 16), (16, .if_icmp .ge 232, 3, 19), (19, .aload_n 0, 1, 20), (20, .getfield 25, 3, 23), (23, .getfield 110, 3, 26), (26, .iload 5, 2, 28), (28, .iaload, 1, 29), (29, .bipush 31, 2, 31), (31, .iand, 1, 32), (32, .istore 6, 2, 34), (34, .aload_n 0, 1, 35), (35, .getfield 25, 3, 38), (38, .getfield 110, 3, 41), (41, .iload 5, 2, 43), (43, .iaload, 1, 44), (44, .iconst 5, 1, 45), (45, .ishr, 1, 46), (46, .istore 7, 2, 48), (48, .iload 6, 2, 50), (50, .ifCond .eq 9, 3, 53), (53, .iload 6, 2, 55), (55, .iconst 1, 1, 56), (56, .if_icmp .ne 43, 3, 59), (59, .iload 4, 2, 61), (61, .bipush 64, 2, 63), (63, .if_icmp .ge 179, 3, 66), (66, .aload_n 0, 1, 67), (67, .getfield 11, 3, 70), (70, .iload 4, 2, 72), (72, .iload 6, 2, 74), (74, .ifCond .ne 9, 3, 77), (77, .iload 7, 2, 79), (79, .i2l, 1, 80), (80, .goto 12, 3, 83), (83, .aload_n 0, 1, 84), (84, .iload 7, 2, 86), (86, .aload_n 1, 1, 87), (87, .iload_n 2, 1, 88), (88, .iload_n 3, 1, 89), (89, .invokevirtual 113, 3, 92), (92, .lastore, 1, 93), (93, .iinc 4 1, 3, 96), (96, .goto 146, 3, 99), (99, .iload 6, 2, 101), (101, .bipush 12, 2, 103), (103, .if_icmp .ne 32, 3, 106), (106, .iload 4, 2, 108), (108, .iconst 1, 1, 109), (109, .if_icmp .lt 26, 3, 112), (112, .aload_n 0, 1, 113), (113, .getfield 11, 3, 116), (116, .iload 4, 2, 118), (118, .iconst 1, 1, 119), (119, .isub, 1, 120), (120, .lconst 1, 1, 121), (121, .aload_n 0, 1, 122), (122, .getfield 11, 3, 125), (125, .iload 4, 2, 127), (127, .iconst 1, 1, 128), (128, .isub, 1, 129), (129, .laload, 1, 130), (130, .lsub, 1, 131), (131, .lastore, 1, 132), (132, .goto 110, 3, 135), (135, .iload 6, 2, 137), (137, .bipush 16, 2, 139), (139, .if_icmp .ne 19, 3, 142), (142, .iload 4, 2, 144), (144, .iconst 1, 1, 145), (145, .if_icmp .lt 13, 3, 148), (148, .aload_n 0, 1, 149), (149, .getfield 11, 3, 152), (152, .iload 4, 2, 154), (154, .iconst 1, 1, 155), (155, .isub, 1, 156), (156, .laload, 1, 157), (157, .lreturn, 1, 158), (158, .iload 6, 2, 160), (160, .bipush 17, 2, 162), (162, .if_icmp .ne 39, 3, 165), (165, .iload 4, 2, 167), (167, .iconst 2, 1, 168), (168, .if_icmp .lt 33, 3, 171), (171, .aload_n 0, 1, 172), (172, .getfield 11, 3, 175), (175, .iload 4, 2, 177), (177, .iconst 1, 1, 178), (178, .isub, 1, 179), (179, .laload, 1, 180), (180, .lconst 0, 1, 181), (181, .lcmp, 1, 182), (182, .ifCond .eq 13, 3, 185), (185, .aload_n 0, 1, 186), (186, .getfield 11, 3, 189), (189, .iload 4, 2, 191), (191, .iconst 2, 1, 192), (192, .isub, 1, 193), (193, .laload, 1, 194), (194, .lreturn, 1, 195), (195, .iinc 4 (-2), 3, 198), (198, .goto 44, 3, 201), (201, .iload 4, 2, 203), (203, .iconst 2, 1, 204), (204, .if_icmp .lt 38, 3, 207), (207, .aload_n 0, 1, 208), (208, .getfield 11, 3, 211), (211, .iload 4, 2, 213), (213, .iconst 2, 1, 214), (214, .isub, 1, 215), (215, .iload 6, 2, 217), (217, .aload_n 0, 1, 218), (218, .getfield 11, 3, 221), (221, .iload 4, 2, 223), (223, .iconst 2, 1, 224), (224, .isub, 1, 225), (225, .laload, 1, 226), (226, .aload_n 0, 1, 227), (227, .getfield 11, 3, 230), (230, .iload 4, 2, 232), (232, .iconst 1, 1, 233), (233, .isub, 1, 234), (234, .laload, 1, 235), (235, .invokestatic 117, 3, 238), (238, .lastore, 1, 239), (239, .iinc 4 (-1), 3, 242), (242, .iinc 5 1, 3, 245), (245, .goto (-239), 3, 248), (248, .lconst 0, 1, 249), (249, .lreturn, 1, 250)]
theorem id_X1_sumFor : ∀ q ∈ it_X1_sumFor, decode cX1_sumFor q.1 = .ok (q.2.1, q.2.2.1) ∧ q.1 + q.2.2.1 = q.2.2.2 := by decide +kernel
theorem dc_X1_sumFor {pc : Nat} {i : Instr} {n pc' : Nat} (j : Nat) (h : it_X1_sumFor[j]? = some (pc, i, n, pc')) : Dc cX1_sumFor pc i n pc' := dc_of id_X1_sumFor j h
abbrev rm_X1_sumFor : Room := { frames := 3, cells := 0, slots := 0, locals := 68 }
def b_X1_sumFor_242 (a1 : Nat) (k6 : Int32 → Int32 → Int32 → Int32 → MS → Option (Int64 × MS))  (y2 : Int32) (y3 : Int32) (y4 : Int32) (y5 : Int32) (σ : MS) : Option (Int64 × MS) := (k6 (y2) (y3) (y4) ((y5 + (1 : Int32))) σ)
set_option maxHeartbeats 4000000 in
set_option maxRecDepth 20000 in
theorem c_X1_sumFor_242 {X : CX} {Ω : OM} (hX : CF X Ω RX1 cX1_sumFor 8 (some .long) rm_X1_sumFor) (hO : OKO Ω) (hΩ : oSH Ω = SHX) (a1 : Nat) (ha1 : sRt Ω a1 shState) (k6 : Int32 → Int32 → Int32 → Int32 → MS → Option (Int64 × MS)) (hk6 : ∀ (y2 : Int32) (y3 : Int32) (y4 : Int32) (y5 : Int32) (σ : MS) , GE X Ω 8 0 0 (emWL) 0 0 6 [(0, .ref 44), (1, .ref a1), (2, .int y2), (3, .int y3), (4, .int y4), (5, .int y5)] [] σ (k6 y2 y3 y4 y5 σ))  (y2 : Int32) (y3 : Int32) (y4 : Int32) (y5 : Int32) (σ : MS)  : GE X Ω 8 0 0 (emWL) 0 0 242 [(0, .ref 44), (1, .ref a1), (2, .int y2), (3, .int y3), (4, .int y4), (5, .int y5)] [] σ (b_X1_sumFor_242 a1 k6 y2 y3 y4 y5 σ) := by
  unfold b_X1_sumFor_242
  refine g_iinc (w := (y5 + (1 : Int32))) (L' := [(5, .int (y5 + (1 : Int32))), (0, .ref 44), (1, .ref a1), (2, .int y2), (3, .int y3), (4, .int y4)]) hX (dc_X1_sumFor 133 rfl) 5 rfl rfl (by decide) rfl ?_
  refine g_goto (tgt := 6) hX (dc_X1_sumFor 134 rfl) (by decide) ?_
  exact g_sub [1, 2, 3, 4, 5, 0] rfl (hk6 (y2) (y3) (y4) ((y5 + (1 : Int32))) σ )
def b_X1_sumFor_201 (a1 : Nat) (k6 : Int32 → Int32 → Int32 → Int32 → MS → Option (Int64 × MS))  (y2 : Int32) (y3 : Int32) (y4 : Int32) (y5 : Int32) (y6 : Int32) (σ : MS) : Option (Int64 × MS) := (if y4 < (2 : Int32) then (b_X1_sumFor_242 a1 k6 (y2) (y3) (y4) (y5) σ) else chk (inb (y4 - (2 : Int32)) 64) (chk (inb (y4 - (1 : Int32)) 64) ((f_X6_compute y6 (sJ σ 45 (ix (y4 - (2 : Int32)))) (sJ σ 45 (ix (y4 - (1 : Int32))))).bind (fun r39 => chk (inb (y4 - (2 : Int32)) 64) ((b_X1_sumFor_242 a1 k6 (y2) (y3) ((y4 + (-1 : Int32))) (y5) (wJ σ 45 (ix (y4 - (2 : Int32))) r39)))))))
set_option maxHeartbeats 4000000 in
set_option maxRecDepth 20000 in
theorem c_X1_sumFor_201 {X : CX} {Ω : OM} (hX : CF X Ω RX1 cX1_sumFor 8 (some .long) rm_X1_sumFor) (hO : OKO Ω) (hΩ : oSH Ω = SHX) (a1 : Nat) (ha1 : sRt Ω a1 shState) (k6 : Int32 → Int32 → Int32 → Int32 → MS → Option (Int64 × MS)) (hk6 : ∀ (y2 : Int32) (y3 : Int32) (y4 : Int32) (y5 : Int32) (σ : MS) , GE X Ω 8 0 0 (emWL) 0 0 6 [(0, .ref 44), (1, .ref a1), (2, .int y2), (3, .int y3), (4, .int y4), (5, .int y5)] [] σ (k6 y2 y3 y4 y5 σ))  (y2 : Int32) (y3 : Int32) (y4 : Int32) (y5 : Int32) (y6 : Int32) (σ : MS)  : GE X Ω 8 0 0 (emWL) 0 0 201 [(0, .ref 44), (1, .ref a1), (2, .int y2), (3, .int y3), (4, .int y4), (5, .int y5), (6, .int y6)] [] σ (b_X1_sumFor_201 a1 k6 y2 y3 y4 y5 y6 σ) := by
  unfold b_X1_sumFor_201
  refine g_iload hX (dc_X1_sumFor 109 rfl) 4 rfl ?_
  refine g_iconst (w := (2 : Int32)) hX (dc_X1_sumFor 110 rfl) (by decide) ?_
  refine g_icmp_lt (tgt := 242) hX (dc_X1_sumFor 111 rfl) (by decide) (fun h36 => ?_) (fun h36 => ?_)
  · exact g_sub [0, 1, 2, 3, 4, 5] rfl (c_X1_sumFor_242 hX hO hΩ a1 ha1 _ hk6 (y2) (y3) (y4) (y5) σ)
  · refine g_aload_n hX (dc_X1_sumFor 112 rfl) rfl 0 rfl ?_
    refine g_getF (q := 45) hX (dc_X1_sumFor 113 rfl) fl_X1_11 (by decide) rfl (stS hΩ 44 rfl) rfl ?_
    refine g_iload hX (dc_X1_sumFor 114 rfl) 4 rfl ?_
    refine g_iconst (w := (2 : Int32)) hX (dc_X1_sumFor 115 rfl) (by decide) ?_
    refine g_isub hX (dc_X1_sumFor 116 rfl) ?_
    refine g_iload hX (dc_X1_sumFor 117 rfl) 6 rfl ?_
    refine g_aload_n hX (dc_X1_sumFor 118 rfl) rfl 0 rfl ?_
    refine g_getF (q := 45) hX (dc_X1_sumFor 119 rfl) fl_X1_11 (by decide) rfl (stS hΩ 44 rfl) rfl ?_
    refine g_iload hX (dc_X1_sumFor 120 rfl) 4 rfl ?_
    refine g_iconst (w := (2 : Int32)) hX (dc_X1_sumFor 121 rfl) (by decide) ?_
    refine g_isub hX (dc_X1_sumFor 122 rfl) ?_
    refine g_chk (fun hc37 => ?_)
    refine g_lald hX (dc_X1_sumFor 123 rfl) (stS hΩ 45 rfl) hc37 rfl ?_
    refine g_aload_n hX (dc_X1_sumFor 124 rfl) rfl 0 rfl ?_
    refine g_getF (q := 45) hX (dc_X1_sumFor 125 rfl) fl_X1_11 (by decide) rfl (stS hΩ 44 rfl) rfl ?_
    refine g_iload hX (dc_X1_sumFor 126 rfl) 4 rfl ?_
    refine g_iconst (w := (1 : Int32)) hX (dc_X1_sumFor 127 rfl) (by decide) ?_
    refine g_isub hX (dc_X1_sumFor 128 rfl) ?_
    refine g_chk (fun hc38 => ?_)
    refine g_lald hX (dc_X1_sumFor 129 rfl) (stS hΩ 45 rfl) hc38 rfl ?_
    refine gS_PL (As := [.int y6, .long (sJ σ 45 (ix (y4 - (2 : Int32)))), .long (sJ σ 45 (ix (y4 - (1 : Int32))))]) (st := [.int (y4 - (2 : Int32)), .ref 45]) hX (dc_X1_sumFor 130 rfl) ml_X1_117 (con_X6_compute hO hΩ y6 (sJ σ 45 (ix (y4 - (2 : Int32)))) (sJ σ 45 (ix (y4 - (1 : Int32)))) σ) rfl rfl ⟨by decide, by decide⟩ ⟨rfl, rfl⟩ ⟨Nat.zero_le _, Nat.zero_le _⟩ (Nat.le_of_ble_eq_true rfl) (fun r39 _ => ?_)
    refine g_chk (fun hc40 => ?_)
    refine g_last hX (dc_X1_sumFor 131 rfl) (stS hΩ 45 rfl) hc40 rfl ?_
    refine g_iinc (w := (y4 + (-1 : Int32))) (L' := [(4, .int (y4 + (-1 : Int32))), (0, .ref 44), (1, .ref a1), (2, .int y2), (3, .int y3), (5, .int y5), (6, .int y6)]) hX (dc_X1_sumFor 132 rfl) 4 rfl rfl (by decide) rfl ?_
    exact g_sub [1, 2, 3, 4, 0, 5] rfl (c_X1_sumFor_242 hX hO hΩ a1 ha1 _ hk6 (y2) (y3) ((y4 + (-1 : Int32))) (y5) (wJ σ 45 (ix (y4 - (2 : Int32))) r39))
def b_X1_sumFor_158 (a1 : Nat) (k6 : Int32 → Int32 → Int32 → Int32 → MS → Option (Int64 × MS))  (y2 : Int32) (y3 : Int32) (y4 : Int32) (y5 : Int32) (y6 : Int32) (σ : MS) : Option (Int64 × MS) := (if y6 = (17 : Int32) then (if y4 < (2 : Int32) then (b_X1_sumFor_201 a1 k6 (y2) (y3) (y4) (y5) (y6) σ) else chk (inb (y4 - (1 : Int32)) 64) ((if (lg_cmp (sJ σ 45 (ix (y4 - (1 : Int32)))) (0 : Int64)) = 0 then (b_X1_sumFor_242 a1 k6 (y2) (y3) ((y4 + (-2 : Int32))) (y5) σ) else chk (inb (y4 - (2 : Int32)) 64) (some ((sJ σ 45 (ix (y4 - (2 : Int32)))), σ))))) else (b_X1_sumFor_201 a1 k6 (y2) (y3) (y4) (y5) (y6) σ))
set_option maxHeartbeats 4000000 in
set_option maxRecDepth 20000 in
theorem c_X1_sumFor_158 {X : CX} {Ω : OM} (hX : CF X Ω RX1 cX1_sumFor 8 (some .long) rm_X1_sumFor) (hO : OKO Ω) (hΩ : oSH Ω = SHX) (a1 : Nat) (ha1 : sRt Ω a1 shState) (k6 : Int32 → Int32 → Int32 → Int32 → MS → Option (Int64 × MS)) (hk6 : ∀ (y2 : Int32) (y3 : Int32) (y4 : Int32) (y5 : Int32) (σ : MS) , GE X Ω 8 0 0 (emWL) 0 0 6 [(0, .ref 44), (1, .ref a1), (2, .int y2), (3, .int y3), (4, .int y4), (5, .int y5)] [] σ (k6 y2 y3 y4 y5 σ))  (y2 : Int32) (y3 : Int32) (y4 : Int32) (y5 : Int32) (y6 : Int32) (σ : MS)  : GE X Ω 8 0 0 (emWL) 0 0 158 [(0, .ref 44), (1, .ref a1), (2, .int y2), (3, .int y3), (4, .int y4), (5, .int y5), (6, .int y6)] [] σ (b_X1_sumFor_158 a1 k6 y2 y3 y4 y5 y6 σ) := by
  unfold b_X1_sumFor_158
  refine g_iload hX (dc_X1_sumFor 85 rfl) 6 rfl ?_
  refine g_bipush (w := (17 : Int32)) hX (dc_X1_sumFor 86 rfl) (by decide) ?_
  refine g_icmp_ne (tgt := 201) hX (dc_X1_sumFor 87 rfl) (by decide) (fun h41 => ?_) (fun h41 => ?_)
  · refine g_iload hX (dc_X1_sumFor 88 rfl) 4 rfl ?_
    refine g_iconst (w := (2 : Int32)) hX (dc_X1_sumFor 89 rfl) (by decide) ?_
    refine g_icmp_lt (tgt := 201) hX (dc_X1_sumFor 90 rfl) (by decide) (fun h42 => ?_) (fun h42 => ?_)
    · exact g_sub [0, 1, 2, 3, 4, 5, 6] rfl (c_X1_sumFor_201 hX hO hΩ a1 ha1 _ hk6 (y2) (y3) (y4) (y5) (y6) σ)
    · refine g_aload_n hX (dc_X1_sumFor 91 rfl) rfl 0 rfl ?_
      refine g_getF (q := 45) hX (dc_X1_sumFor 92 rfl) fl_X1_11 (by decide) rfl (stS hΩ 44 rfl) rfl ?_
      refine g_iload hX (dc_X1_sumFor 93 rfl) 4 rfl ?_
      refine g_iconst (w := (1 : Int32)) hX (dc_X1_sumFor 94 rfl) (by decide) ?_
      refine g_isub hX (dc_X1_sumFor 95 rfl) ?_
      refine g_chk (fun hc43 => ?_)
      refine g_lald hX (dc_X1_sumFor 96 rfl) (stS hΩ 45 rfl) hc43 rfl ?_
      refine g_lconst (w := (0 : Int64)) hX (dc_X1_sumFor 97 rfl) (by decide) ?_
      refine g_lcmp hX (dc_X1_sumFor 98 rfl) ?_
      refine g_if_eq (tgt := 195) hX (dc_X1_sumFor 99 rfl) (by decide) (fun h44 => ?_) (fun h44 => ?_)
      · refine g_iinc (w := (y4 + (-2 : Int32))) (L' := [(4, .int (y4 + (-2 : Int32))), (0, .ref 44), (1, .ref a1), (2, .int y2), (3, .int y3), (5, .int y5), (6, .int y6)]) hX (dc_X1_sumFor 107 rfl) 4 rfl rfl (by decide) rfl ?_
        refine g_goto (tgt := 242) hX (dc_X1_sumFor 108 rfl) (by decide) ?_
        exact g_sub [1, 2, 3, 4, 0, 5] rfl (c_X1_sumFor_242 hX hO hΩ a1 ha1 _ hk6 (y2) (y3) ((y4 + (-2 : Int32))) (y5) σ)
      · refine g_aload_n hX (dc_X1_sumFor 100 rfl) rfl 0 rfl ?_
        refine g_getF (q := 45) hX (dc_X1_sumFor 101 rfl) fl_X1_11 (by decide) rfl (stS hΩ 44 rfl) rfl ?_
        refine g_iload hX (dc_X1_sumFor 102 rfl) 4 rfl ?_
        refine g_iconst (w := (2 : Int32)) hX (dc_X1_sumFor 103 rfl) (by decide) ?_
        refine g_isub hX (dc_X1_sumFor 104 rfl) ?_
        refine g_chk (fun hc45 => ?_)
        refine g_lald hX (dc_X1_sumFor 105 rfl) (stS hΩ 45 rfl) hc45 rfl ?_
        exact g_lret hX (dc_X1_sumFor 106 rfl) rfl (Nat.le_refl _) (Nat.le_refl _)
  · exact g_sub [0, 1, 2, 3, 4, 5, 6] rfl (c_X1_sumFor_201 hX hO hΩ a1 ha1 _ hk6 (y2) (y3) (y4) (y5) (y6) σ)
def b_X1_sumFor_135 (a1 : Nat) (k6 : Int32 → Int32 → Int32 → Int32 → MS → Option (Int64 × MS))  (y2 : Int32) (y3 : Int32) (y4 : Int32) (y5 : Int32) (y6 : Int32) (σ : MS) : Option (Int64 × MS) := (if y6 = (16 : Int32) then (if y4 < (1 : Int32) then (b_X1_sumFor_158 a1 k6 (y2) (y3) (y4) (y5) (y6) σ) else chk (inb (y4 - (1 : Int32)) 64) (some ((sJ σ 45 (ix (y4 - (1 : Int32)))), σ))) else (b_X1_sumFor_158 a1 k6 (y2) (y3) (y4) (y5) (y6) σ))
set_option maxHeartbeats 4000000 in
set_option maxRecDepth 20000 in
theorem c_X1_sumFor_135 {X : CX} {Ω : OM} (hX : CF X Ω RX1 cX1_sumFor 8 (some .long) rm_X1_sumFor) (hO : OKO Ω) (hΩ : oSH Ω = SHX) (a1 : Nat) (ha1 : sRt Ω a1 shState) (k6 : Int32 → Int32 → Int32 → Int32 → MS → Option (Int64 × MS)) (hk6 : ∀ (y2 : Int32) (y3 : Int32) (y4 : Int32) (y5 : Int32) (σ : MS) , GE X Ω 8 0 0 (emWL) 0 0 6 [(0, .ref 44), (1, .ref a1), (2, .int y2), (3, .int y3), (4, .int y4), (5, .int y5)] [] σ (k6 y2 y3 y4 y5 σ))  (y2 : Int32) (y3 : Int32) (y4 : Int32) (y5 : Int32) (y6 : Int32) (σ : MS)  : GE X Ω 8 0 0 (emWL) 0 0 135 [(0, .ref 44), (1, .ref a1), (2, .int y2), (3, .int y3), (4, .int y4), (5, .int y5), (6, .int y6)] [] σ (b_X1_sumFor_135 a1 k6 y2 y3 y4 y5 y6 σ) := by
  unfold b_X1_sumFor_135
  refine g_iload hX (dc_X1_sumFor 72 rfl) 6 rfl ?_
  refine g_bipush (w := (16 : Int32)) hX (dc_X1_sumFor 73 rfl) (by decide) ?_
  refine g_icmp_ne (tgt := 158) hX (dc_X1_sumFor 74 rfl) (by decide) (fun h46 => ?_) (fun h46 => ?_)
  · refine g_iload hX (dc_X1_sumFor 75 rfl) 4 rfl ?_
    refine g_iconst (w := (1 : Int32)) hX (dc_X1_sumFor 76 rfl) (by decide) ?_
    refine g_icmp_lt (tgt := 158) hX (dc_X1_sumFor 77 rfl) (by decide) (fun h47 => ?_) (fun h47 => ?_)
    · exact g_sub [0, 1, 2, 3, 4, 5, 6] rfl (c_X1_sumFor_158 hX hO hΩ a1 ha1 _ hk6 (y2) (y3) (y4) (y5) (y6) σ)
    · refine g_aload_n hX (dc_X1_sumFor 78 rfl) rfl 0 rfl ?_
      refine g_getF (q := 45) hX (dc_X1_sumFor 79 rfl) fl_X1_11 (by decide) rfl (stS hΩ 44 rfl) rfl ?_
      refine g_iload hX (dc_X1_sumFor 80 rfl) 4 rfl ?_
      refine g_iconst (w := (1 : Int32)) hX (dc_X1_sumFor 81 rfl) (by decide) ?_
      refine g_isub hX (dc_X1_sumFor 82 rfl) ?_
      refine g_chk (fun hc48 => ?_)
      refine g_lald hX (dc_X1_sumFor 83 rfl) (stS hΩ 45 rfl) hc48 rfl ?_
      exact g_lret hX (dc_X1_sumFor 84 rfl) rfl (Nat.le_refl _) (Nat.le_refl _)
  · exact g_sub [0, 1, 2, 3, 4, 5, 6] rfl (c_X1_sumFor_158 hX hO hΩ a1 ha1 _ hk6 (y2) (y3) (y4) (y5) (y6) σ)
def b_X1_sumFor_92 (a1 : Nat) (k6 : Int32 → Int32 → Int32 → Int32 → MS → Option (Int64 × MS))  (y2 : Int32) (y3 : Int32) (y4 : Int32) (y5 : Int32) (s0 : Int64) (s1 : Int32) (σ : MS) : Option (Int64 × MS) := chk (inb s1 64) ((b_X1_sumFor_242 a1 k6 (y2) (y3) ((y4 + (1 : Int32))) (y5) (wJ σ 45 (ix s1) s0)))
set_option maxHeartbeats 4000000 in
set_option maxRecDepth 20000 in
theorem c_X1_sumFor_92 {X : CX} {Ω : OM} (hX : CF X Ω RX1 cX1_sumFor 8 (some .long) rm_X1_sumFor) (hO : OKO Ω) (hΩ : oSH Ω = SHX) (a1 : Nat) (ha1 : sRt Ω a1 shState) (k6 : Int32 → Int32 → Int32 → Int32 → MS → Option (Int64 × MS)) (hk6 : ∀ (y2 : Int32) (y3 : Int32) (y4 : Int32) (y5 : Int32) (σ : MS) , GE X Ω 8 0 0 (emWL) 0 0 6 [(0, .ref 44), (1, .ref a1), (2, .int y2), (3, .int y3), (4, .int y4), (5, .int y5)] [] σ (k6 y2 y3 y4 y5 σ))  (y2 : Int32) (y3 : Int32) (y4 : Int32) (y5 : Int32) (s0 : Int64) (s1 : Int32) (σ : MS)  : GE X Ω 8 0 0 (emWL) 0 0 92 [(0, .ref 44), (1, .ref a1), (2, .int y2), (3, .int y3), (4, .int y4), (5, .int y5)] [.long s0, .int s1, .ref 45] σ (b_X1_sumFor_92 a1 k6 y2 y3 y4 y5 s0 s1 σ) := by
  unfold b_X1_sumFor_92
  refine g_chk (fun hc49 => ?_)
  refine g_last hX (dc_X1_sumFor 48 rfl) (stS hΩ 45 rfl) hc49 rfl ?_
  refine g_iinc (w := (y4 + (1 : Int32))) (L' := [(4, .int (y4 + (1 : Int32))), (0, .ref 44), (1, .ref a1), (2, .int y2), (3, .int y3), (5, .int y5)]) hX (dc_X1_sumFor 49 rfl) 4 rfl rfl (by decide) rfl ?_
  refine g_goto (tgt := 242) hX (dc_X1_sumFor 50 rfl) (by decide) ?_
  exact g_sub [1, 2, 3, 4, 0, 5] rfl (c_X1_sumFor_242 hX hO hΩ a1 ha1 _ hk6 (y2) (y3) ((y4 + (1 : Int32))) (y5) (wJ σ 45 (ix s1) s0))
def b_X1_sumFor_59 (a1 : Nat) (k6 : Int32 → Int32 → Int32 → Int32 → MS → Option (Int64 × MS))  (y2 : Int32) (y3 : Int32) (y4 : Int32) (y5 : Int32) (y6 : Int32) (y7 : Int32) (σ : MS) : Option (Int64 × MS) := (if (64 : Int32) ≤ y4 then (b_X1_sumFor_242 a1 k6 (y2) (y3) (y4) (y5) σ) else (if y6 = 0 then (b_X1_sumFor_92 a1 k6 (y2) (y3) (y4) (y5) ((y7).toInt64) (y4) σ) else (f_X1_wordOf y7 a1 y2 y3 σ).bind (fun r52 => (b_X1_sumFor_92 a1 k6 (y2) (y3) (y4) (y5) (r52) (y4) σ))))
set_option maxHeartbeats 4000000 in
set_option maxRecDepth 20000 in
theorem c_X1_sumFor_59 {X : CX} {Ω : OM} (hX : CF X Ω RX1 cX1_sumFor 8 (some .long) rm_X1_sumFor) (hO : OKO Ω) (hΩ : oSH Ω = SHX) (a1 : Nat) (ha1 : sRt Ω a1 shState) (k6 : Int32 → Int32 → Int32 → Int32 → MS → Option (Int64 × MS)) (hk6 : ∀ (y2 : Int32) (y3 : Int32) (y4 : Int32) (y5 : Int32) (σ : MS) , GE X Ω 8 0 0 (emWL) 0 0 6 [(0, .ref 44), (1, .ref a1), (2, .int y2), (3, .int y3), (4, .int y4), (5, .int y5)] [] σ (k6 y2 y3 y4 y5 σ))  (y2 : Int32) (y3 : Int32) (y4 : Int32) (y5 : Int32) (y6 : Int32) (y7 : Int32) (σ : MS)  : GE X Ω 8 0 0 (emWL) 0 0 59 [(0, .ref 44), (1, .ref a1), (2, .int y2), (3, .int y3), (4, .int y4), (5, .int y5), (6, .int y6), (7, .int y7)] [] σ (b_X1_sumFor_59 a1 k6 y2 y3 y4 y5 y6 y7 σ) := by
  unfold b_X1_sumFor_59
  refine g_iload hX (dc_X1_sumFor 31 rfl) 4 rfl ?_
  refine g_bipush (w := (64 : Int32)) hX (dc_X1_sumFor 32 rfl) (by decide) ?_
  refine g_icmp_ge (tgt := 242) hX (dc_X1_sumFor 33 rfl) (by decide) (fun h50 => ?_) (fun h50 => ?_)
  · exact g_sub [0, 1, 2, 3, 4, 5] rfl (c_X1_sumFor_242 hX hO hΩ a1 ha1 _ hk6 (y2) (y3) (y4) (y5) σ)
  · refine g_aload_n hX (dc_X1_sumFor 34 rfl) rfl 0 rfl ?_
    refine g_getF (q := 45) hX (dc_X1_sumFor 35 rfl) fl_X1_11 (by decide) rfl (stS hΩ 44 rfl) rfl ?_
    refine g_iload hX (dc_X1_sumFor 36 rfl) 4 rfl ?_
    refine g_iload hX (dc_X1_sumFor 37 rfl) 6 rfl ?_
    refine g_if_ne (tgt := 83) hX (dc_X1_sumFor 38 rfl) (by decide) (fun h51 => ?_) (fun h51 => ?_)
    · refine g_iload hX (dc_X1_sumFor 39 rfl) 7 rfl ?_
      refine g_i2l hX (dc_X1_sumFor 40 rfl) ?_
      refine g_goto (tgt := 92) hX (dc_X1_sumFor 41 rfl) (by decide) ?_
      exact g_sub [0, 1, 2, 3, 4, 5] rfl (c_X1_sumFor_92 hX hO hΩ a1 ha1 _ hk6 (y2) (y3) (y4) (y5) ((y7).toInt64) (y4) σ)
    · refine g_aload_n hX (dc_X1_sumFor 42 rfl) rfl 0 rfl ?_
      refine g_iload hX (dc_X1_sumFor 43 rfl) 7 rfl ?_
      refine g_aload_n hX (dc_X1_sumFor 44 rfl) rfl 1 rfl ?_
      refine g_iload_n hX (dc_X1_sumFor 45 rfl) rfl 2 rfl ?_
      refine g_iload_n hX (dc_X1_sumFor 46 rfl) rfl 3 rfl ?_
      refine gV_PL (As := [.int y7, .ref a1, .int y2, .int y3]) (st := [.int y4, .ref 45]) hX (dc_X1_sumFor 47 rfl) ml_X1_113 (con_X1_wordOf hO hΩ y7 a1 y2 y3 σ ha1) (stS hΩ 44 rfl) rfl rfl ⟨by decide, by decide⟩ ⟨rfl, rfl⟩ ⟨Nat.zero_le _, Nat.zero_le _⟩ (Nat.le_of_ble_eq_true rfl) (fun r52 _ => ?_)
      exact g_sub [0, 1, 2, 3, 4, 5] rfl (c_X1_sumFor_92 hX hO hΩ a1 ha1 _ hk6 (y2) (y3) (y4) (y5) (r52) (y4) σ)
def b_X1_sumFor_6 (a1 : Nat)  : Nat → Int32 → Int32 → Int32 → Int32 → MS → Option (Int64 × MS)
  | 0, _, _, _, _, _ => none
  | n + 1, y2, y3, y4, y5, σ => (onr (sR σ 44 2) (none) (fun b53 => @chk (okRule σ b53) (dec_okRule σ b53) _ ((if (Int32.ofNat (sS σ (b53 + 1)).2) ≤ y5 then some ((0 : Int64), σ) else (onr (sR σ 44 2) (none) (fun b57 => @chk (okRule σ b57) (dec_okRule σ b57) _ (chk (inb y5 (sS σ (b57 + 1)).2) ((onr (sR σ 44 2) (none) (fun b61 => @chk (okRule σ b61) (dec_okRule σ b61) _ (chk (inb y5 (sS σ (b61 + 1)).2) ((if ((sI σ (b57 + 1) (ix y5)) &&& (31 : Int32)) = 0 then (b_X1_sumFor_59 a1 (b_X1_sumFor_6 a1 n) (y2) (y3) (y4) (y5) (((sI σ (b57 + 1) (ix y5)) &&& (31 : Int32))) (((sI σ (b61 + 1) (ix y5)) >>> ((5 : Int32) &&& 31))) σ) else (if ((sI σ (b57 + 1) (ix y5)) &&& (31 : Int32)) = (1 : Int32) then (b_X1_sumFor_59 a1 (b_X1_sumFor_6 a1 n) (y2) (y3) (y4) (y5) (((sI σ (b57 + 1) (ix y5)) &&& (31 : Int32))) (((sI σ (b61 + 1) (ix y5)) >>> ((5 : Int32) &&& 31))) σ) else (if ((sI σ (b57 + 1) (ix y5)) &&& (31 : Int32)) = (12 : Int32) then (if y4 < (1 : Int32) then (b_X1_sumFor_135 a1 (b_X1_sumFor_6 a1 n) (y2) (y3) (y4) (y5) (((sI σ (b57 + 1) (ix y5)) &&& (31 : Int32))) σ) else chk (inb (y4 - (1 : Int32)) 64) (chk (inb (y4 - (1 : Int32)) 64) ((b_X1_sumFor_242 a1 (b_X1_sumFor_6 a1 n) (y2) (y3) (y4) (y5) (wJ σ 45 (ix (y4 - (1 : Int32))) ((1 : Int64) - (sJ σ 45 (ix (y4 - (1 : Int32)))))))))) else (b_X1_sumFor_135 a1 (b_X1_sumFor_6 a1 n) (y2) (y3) (y4) (y5) (((sI σ (b57 + 1) (ix y5)) &&& (31 : Int32))) σ))))))))))))))))
set_option maxHeartbeats 4000000 in
set_option maxRecDepth 20000 in
theorem c_X1_sumFor_6 {X : CX} {Ω : OM} (hX : CF X Ω RX1 cX1_sumFor 8 (some .long) rm_X1_sumFor) (hO : OKO Ω) (hΩ : oSH Ω = SHX) (a1 : Nat) (ha1 : sRt Ω a1 shState)  : ∀ (n : Nat) (y2 : Int32) (y3 : Int32) (y4 : Int32) (y5 : Int32) (σ : MS) , GE X Ω 8 0 0 (emWL) 0 0 6 [(0, .ref 44), (1, .ref a1), (2, .int y2), (3, .int y3), (4, .int y4), (5, .int y5)] [] σ (b_X1_sumFor_6 a1 n y2 y3 y4 y5 σ)
  | 0, _, _, _, _, _ => g_none
  | n + 1, y2, y3, y4, y5, σ => by
    have hk6 := c_X1_sumFor_6 hX hO hΩ a1 ha1 n
    unfold b_X1_sumFor_6
    refine g_iload hX (dc_X1_sumFor 4 rfl) 5 rfl ?_
    refine g_aload_n hX (dc_X1_sumFor 5 rfl) rfl 0 rfl ?_
    refine g_getN (raw := false) hX (dc_X1_sumFor 6 rfl) fl_X1_25 (by decide) (Or.inl rfl) (stS hΩ 44 rfl) (fun _ => ?_) (fun b53 hb54 => ?_)
    · exact g_none
    · refine g_chkd (fun ho55 => ?_)
      refine g_getF (q := (b53 + 1)) hX (dc_X1_sumFor 7 rfl) fl_X1_110 (by decide) rfl ho55.o rfl ?_
      refine g_alen (w := (Int32.ofNat (sS σ (b53 + 1)).2)) hX (dc_X1_sumFor 8 rfl) ho55.c (by decide) rfl ?_
      refine g_icmp_ge (tgt := 248) hX (dc_X1_sumFor 9 rfl) (by decide) (fun h56 => ?_) (fun h56 => ?_)
      · refine g_lconst (w := (0 : Int64)) hX (dc_X1_sumFor 135 rfl) (by decide) ?_
        exact g_lret hX (dc_X1_sumFor 136 rfl) rfl (Nat.le_refl _) (Nat.le_refl _)
      · refine g_aload_n hX (dc_X1_sumFor 10 rfl) rfl 0 rfl ?_
        refine g_getN (raw := false) hX (dc_X1_sumFor 11 rfl) fl_X1_25 (by decide) (Or.inl rfl) (stS hΩ 44 rfl) (fun _ => ?_) (fun b57 hb58 => ?_)
        · exact g_none
        · refine g_chkd (fun ho59 => ?_)
          refine g_getF (q := (b57 + 1)) hX (dc_X1_sumFor 12 rfl) fl_X1_110 (by decide) rfl ho59.o rfl ?_
          refine g_iload hX (dc_X1_sumFor 13 rfl) 5 rfl ?_
          refine g_chk (fun hc60 => ?_)
          refine g_iald hX (dc_X1_sumFor 14 rfl) ho59.c hc60 rfl ?_
          refine g_bipush (w := (31 : Int32)) hX (dc_X1_sumFor 15 rfl) (by decide) ?_
          refine g_iand hX (dc_X1_sumFor 16 rfl) ?_
          refine g_istore (L' := [(6, .int ((sI σ (b57 + 1) (ix y5)) &&& (31 : Int32))), (0, .ref 44), (1, .ref a1), (2, .int y2), (3, .int y3), (4, .int y4), (5, .int y5)]) hX (dc_X1_sumFor 17 rfl) (by decide) rfl ?_
          refine g_aload_n hX (dc_X1_sumFor 18 rfl) rfl 1 rfl ?_
          refine g_getN (raw := false) hX (dc_X1_sumFor 19 rfl) fl_X1_25 (by decide) (Or.inl rfl) (stS hΩ 44 rfl) (fun _ => ?_) (fun b61 hb62 => ?_)
          · exact g_none
          · refine g_chkd (fun ho63 => ?_)
            refine g_getF (q := (b61 + 1)) hX (dc_X1_sumFor 20 rfl) fl_X1_110 (by decide) rfl ho63.o rfl ?_
            refine g_iload hX (dc_X1_sumFor 21 rfl) 6 rfl ?_
            refine g_chk (fun hc64 => ?_)
            refine g_iald hX (dc_X1_sumFor 22 rfl) ho63.c hc64 rfl ?_
            refine g_iconst (w := (5 : Int32)) hX (dc_X1_sumFor 23 rfl) (by decide) ?_
            refine g_ishr hX (dc_X1_sumFor 24 rfl) ?_
            refine g_istore (L' := [(7, .int ((sI σ (b61 + 1) (ix y5)) >>> ((5 : Int32) &&& 31))), (6, .int ((sI σ (b57 + 1) (ix y5)) &&& (31 : Int32))), (0, .ref 44), (1, .ref a1), (2, .int y2), (3, .int y3), (4, .int y4), (5, .int y5)]) hX (dc_X1_sumFor 25 rfl) (by decide) rfl ?_
            refine g_iload hX (dc_X1_sumFor 26 rfl) 1 rfl ?_
            refine g_if_eq (tgt := 59) hX (dc_X1_sumFor 27 rfl) (by decide) (fun h65 => ?_) (fun h65 => ?_)
            · exact g_sub [2, 3, 4, 5, 6, 7, 1, 0] rfl (c_X1_sumFor_59 hX hO hΩ a1 ha1 _ hk6 (y2) (y3) (y4) (y5) (((sI σ (b57 + 1) (ix y5)) &&& (31 : Int32))) (((sI σ (b61 + 1) (ix y5)) >>> ((5 : Int32) &&& 31))) σ)
            · refine g_iload hX (dc_X1_sumFor 28 rfl) 1 rfl ?_
              refine g_iconst (w := (1 : Int32)) hX (dc_X1_sumFor 29 rfl) (by decide) ?_
              refine g_icmp_ne (tgt := 99) hX (dc_X1_sumFor 30 rfl) (by decide) (fun h66 => ?_) (fun h66 => ?_)
              · exact g_sub [2, 3, 4, 5, 6, 7, 1, 0] rfl (c_X1_sumFor_59 hX hO hΩ a1 ha1 _ hk6 (y2) (y3) (y4) (y5) (((sI σ (b57 + 1) (ix y5)) &&& (31 : Int32))) (((sI σ (b61 + 1) (ix y5)) >>> ((5 : Int32) &&& 31))) σ)
              · refine g_iload hX (dc_X1_sumFor 51 rfl) 1 rfl ?_
                refine g_bipush (w := (12 : Int32)) hX (dc_X1_sumFor 52 rfl) (by decide) ?_
                refine g_icmp_ne (tgt := 135) hX (dc_X1_sumFor 53 rfl) (by decide) (fun h67 => ?_) (fun h67 => ?_)
                · refine g_iload hX (dc_X1_sumFor 54 rfl) 6 rfl ?_
                  refine g_iconst (w := (1 : Int32)) hX (dc_X1_sumFor 55 rfl) (by decide) ?_
                  refine g_icmp_lt (tgt := 135) hX (dc_X1_sumFor 56 rfl) (by decide) (fun h68 => ?_) (fun h68 => ?_)
                  · exact g_sub [2, 3, 4, 5, 6, 7, 1] rfl (c_X1_sumFor_135 hX hO hΩ a1 ha1 _ hk6 (y2) (y3) (y4) (y5) (((sI σ (b57 + 1) (ix y5)) &&& (31 : Int32))) σ)
                  · refine g_aload_n hX (dc_X1_sumFor 57 rfl) rfl 2 rfl ?_
                    refine g_getF (q := 45) hX (dc_X1_sumFor 58 rfl) fl_X1_11 (by decide) rfl (stS hΩ 44 rfl) rfl ?_
                    refine g_iload hX (dc_X1_sumFor 59 rfl) 6 rfl ?_
                    refine g_iconst (w := (1 : Int32)) hX (dc_X1_sumFor 60 rfl) (by decide) ?_
                    refine g_isub hX (dc_X1_sumFor 61 rfl) ?_
                    refine g_lconst (w := (1 : Int64)) hX (dc_X1_sumFor 62 rfl) (by decide) ?_
                    refine g_aload_n hX (dc_X1_sumFor 63 rfl) rfl 2 rfl ?_
                    refine g_getF (q := 45) hX (dc_X1_sumFor 64 rfl) fl_X1_11 (by decide) rfl (stS hΩ 44 rfl) rfl ?_
                    refine g_iload hX (dc_X1_sumFor 65 rfl) 6 rfl ?_
                    refine g_iconst (w := (1 : Int32)) hX (dc_X1_sumFor 66 rfl) (by decide) ?_
                    refine g_isub hX (dc_X1_sumFor 67 rfl) ?_
                    refine g_chk (fun hc69 => ?_)
                    refine g_lald hX (dc_X1_sumFor 68 rfl) (stS hΩ 45 rfl) hc69 rfl ?_
                    refine g_lsub hX (dc_X1_sumFor 69 rfl) ?_
                    refine g_chk (fun hc70 => ?_)
                    refine g_last hX (dc_X1_sumFor 70 rfl) (stS hΩ 45 rfl) hc70 rfl ?_
                    refine g_goto (tgt := 242) hX (dc_X1_sumFor 71 rfl) (by decide) ?_
                    exact g_sub [2, 3, 4, 5, 6, 7] rfl (c_X1_sumFor_242 hX hO hΩ a1 ha1 _ hk6 (y2) (y3) (y4) (y5) (wJ σ 45 (ix (y4 - (1 : Int32))) ((1 : Int64) - (sJ σ 45 (ix (y4 - (1 : Int32)))))))
                · exact g_sub [2, 3, 4, 5, 6, 7, 1] rfl (c_X1_sumFor_135 hX hO hΩ a1 ha1 _ hk6 (y2) (y3) (y4) (y5) (((sI σ (b57 + 1) (ix y5)) &&& (31 : Int32))) σ)
def b_X1_sumFor_0 (a1 : Nat)  (x2 : Int32) (x3 : Int32)  (σ : MS) : Option (Int64 × MS) := (b_X1_sumFor_6 a1 FU (x2) (x3) ((0 : Int32)) ((0 : Int32)) σ)
set_option maxHeartbeats 4000000 in
set_option maxRecDepth 20000 in
theorem c_X1_sumFor_0 {X : CX} {Ω : OM} (hX : CF X Ω RX1 cX1_sumFor 8 (some .long) rm_X1_sumFor) (hO : OKO Ω) (hΩ : oSH Ω = SHX) (a1 : Nat) (ha1 : sRt Ω a1 shState)  (x2 : Int32) (x3 : Int32)  (σ : MS)  : GE X Ω 8 0 0 (emWL) 0 0 0 [(0, .ref 44), (1, .ref a1), (2, .int x2), (3, .int x3)] [] σ (b_X1_sumFor_0 a1 x2 x3 σ) := by
  unfold b_X1_sumFor_0
  refine g_iconst (w := (0 : Int32)) hX (dc_X1_sumFor 0 rfl) (by decide) ?_
  refine g_istore (L' := [(4, .int (0 : Int32)), (0, .ref 44), (1, .ref a1), (2, .int x2), (3, .int x3)]) hX (dc_X1_sumFor 1 rfl) (by decide) rfl ?_
  refine g_iconst (w := (0 : Int32)) hX (dc_X1_sumFor 2 rfl) (by decide) ?_
  refine g_istore (L' := [(5, .int (0 : Int32)), (4, .int (0 : Int32)), (0, .ref 44), (1, .ref a1), (2, .int x2), (3, .int x3)]) hX (dc_X1_sumFor 3 rfl) (by decide) rfl ?_
  exact g_sub [2, 3, 4, 5, 1, 0] rfl (c_X1_sumFor_6 hX hO hΩ a1 ha1 FU (x2) (x3) ((0 : Int32)) ((0 : Int32)) σ)
def f_X1_sumFor (a1 : Nat) (x2 : Int32) (x3 : Int32) (σ : MS) : Option (Int64 × MS) := b_X1_sumFor_0 a1 x2 x3 σ
theorem con_X1_sumFor {Ω : OM} (hO : OKO Ω) (hΩ : oSH Ω = SHX) (a1 : Nat) (x2 : Int32) (x3 : Int32) (σ : MS) (ha1 : sRt Ω a1 shState) : Con Ω yX1_sumFor cX1_sumFor 8 (some .long) rm_X1_sumFor (emWL) [.ref 44, .ref a1, .int x2, .int x3] σ (f_X1_sumFor a1 x2 x3 σ) :=
  con_of hO (by decide +kernel) (Nat.le_of_ble_eq_true rfl) rfl (fun X hX _ => c_X1_sumFor_0 hX hO hΩ a1 ha1 x2 x3 σ )
def it_X1_heirOf : List (Nat × Instr × Nat × Nat) := [(0, .iconst (-1), 1, 1), (1, .istore_n 3, 1, 2), (2, .lconst 0, 1, 3), (3, .lstore 4, 2, 5), (5, .iconst 0, 1, 6), (6, .istore 6, 2, 8), (8, .iload 6, 2, 10), (10, .aload_n 0, 1, 11), (11, .getfield 21, 3, 14), (14, .getfield 94, 3, 17), (17, .if_icmp .ge 75, 3, 20), (20, .aload_n 0, 1, 21), (21, .getfield 21, 3, 24), (24, .iload 6, 2, 26), (26, .aload_n 1, 1, 27), (27, .getfield 40, 3, 30), (30, .invokevirtual 43, 3, 33), (33, .ifCond .ne 53, 3, 36), (36, .aload_n 1, 1, 37), (37, .iload 6, 2, 39), (39, .invokevirtual 97, 3, 42), (42, .aload_n 0, 1, 43), (43, .iload 6, 2, 45), (45, .invokevirtual 100, 3, 48), (48, .if_icmp .ge 38, 3, 51), (51, .aload_n 0, 1, 52), (52, .getfield 25, 3, 55), (55, .ifnonnull 6, 3, 58), (58, .iload 6, 2, 60), (60, .ireturn, 1, 61), (61, .aload_n 0, 1, 62), (62, .aload_n 1, 1, 63), (63, .iload_n 2, 1, 64), (64, .iload 6, 2, 66), (66, .invokevirtual 103, 3, 69), (69, .lstore 7, 2, 71), (71, .lload 7, 2, 73), (73, .lload 4, 2, 75), (75, .lcmp, 1, 76), (76, .ifCond .le 10, 3, 79), (79, .lload 7, 2, 81), (81, .lstore 4, 2, 83), (83, .iload 6, 2, 85), (85, .istore_n 3, 1, 86), (86, .iinc 6 1, 3, 89), (89, .goto (-81), 3, 92), (92, .iload_n 3, 1, 93), (93, .ireturn, 1, 94)]
theorem id_X1_heirOf : ∀ q ∈ it_X1_heirOf, decode cX1_heirOf q.1 = .ok (q.2.1, q.2.2.1) ∧ q.1 + q.2.2.1 = q.2.2.2 := by decide +kernel
theorem dc_X1_heirOf {pc : Nat} {i : Instr} {n pc' : Nat} (j : Nat) (h : it_X1_heirOf[j]? = some (pc, i, n, pc')) : Dc cX1_heirOf pc i n pc' := dc_of id_X1_heirOf j h
abbrev rm_X1_heirOf : Room := { frames := 4, cells := 0, slots := 0, locals := 95 }
def b_X1_heirOf_86 (a1 : Nat) (k8 : Int32 → Int32 → Int64 → Int32 → MS → Option (Int32 × MS))  (y2 : Int32) (y3 : Int32) (y4 : Int64) (y6 : Int32) (σ : MS) : Option (Int32 × MS) := (k8 (y2) (y3) (y4) ((y6 + (1 : Int32))) σ)
set_option maxHeartbeats 4000000 in
set_option maxRecDepth 20000 in
theorem c_X1_heirOf_86 {X : CX} {Ω : OM} (hX : CF X Ω RX1 cX1_heirOf 9 (some .int) rm_X1_heirOf) (hO : OKO Ω) (hΩ : oSH Ω = SHX) (a1 : Nat) (ha1 : sRt Ω a1 shState) (k8 : Int32 → Int32 → Int64 → Int32 → MS → Option (Int32 × MS)) (hk8 : ∀ (y2 : Int32) (y3 : Int32) (y4 : Int64) (y6 : Int32) (σ : MS) , GE X Ω 9 0 0 (emWI) 0 0 8 [(0, .ref 44), (1, .ref a1), (2, .int y2), (3, .int y3), (4, .long y4), (6, .int y6)] [] σ (k8 y2 y3 y4 y6 σ))  (y2 : Int32) (y3 : Int32) (y4 : Int64) (y6 : Int32) (σ : MS)  : GE X Ω 9 0 0 (emWI) 0 0 86 [(0, .ref 44), (1, .ref a1), (2, .int y2), (3, .int y3), (4, .long y4), (6, .int y6)] [] σ (b_X1_heirOf_86 a1 k8 y2 y3 y4 y6 σ) := by
  unfold b_X1_heirOf_86
  refine g_iinc (w := (y6 + (1 : Int32))) (L' := [(6, .int (y6 + (1 : Int32))), (0, .ref 44), (1, .ref a1), (2, .int y2), (3, .int y3), (4, .long y4)]) hX (dc_X1_heirOf 44 rfl) 5 rfl rfl (by decide) rfl ?_
  refine g_goto (tgt := 8) hX (dc_X1_heirOf 45 rfl) (by decide) ?_
  exact g_sub [1, 2, 3, 4, 5, 0] rfl (hk8 (y2) (y3) (y4) ((y6 + (1 : Int32))) σ )
def b_X1_heirOf_8 (a1 : Nat)  : Nat → Int32 → Int32 → Int64 → Int32 → MS → Option (Int32 × MS)
  | 0, _, _, _, _, _ => none
  | n + 1, y2, y3, y4, y6, σ => (if (sI σ 23 3) ≤ y6 then some (y3, σ) else (f_X3_isAsleep y6 (sI σ a1 5) σ).bind (fun r13 => (if r13 = 0 then (f_X8_load a1 y6 σ).bind (fun r15 => (f_X1_handsOf y6 σ).bind (fun r16 => (if r16 ≤ r15 then (b_X1_heirOf_86 a1 (b_X1_heirOf_8 a1 n) (y2) (y3) (y4) (y6) σ) else (onr (sR σ 44 2) (some (y6, σ)) (fun b18 => @chk (okRule σ b18) (dec_okRule σ b18) _ ((f_X1_sumFor a1 y2 y6 σ).bind (fun r21 => (if (lg_cmp r21.1 y4) ≤ 0 then (b_X1_heirOf_86 a1 (b_X1_heirOf_8 a1 n) (y2) (y3) (y4) (y6) r21.2) else (b_X1_heirOf_86 a1 (b_X1_heirOf_8 a1 n) (y2) (y6) (r21.1) (y6) r21.2))))))))) else (b_X1_heirOf_86 a1 (b_X1_heirOf_8 a1 n) (y2) (y3) (y4) (y6) σ))))
set_option maxHeartbeats 4000000 in
set_option maxRecDepth 20000 in
theorem c_X1_heirOf_8 {X : CX} {Ω : OM} (hX : CF X Ω RX1 cX1_heirOf 9 (some .int) rm_X1_heirOf) (hO : OKO Ω) (hΩ : oSH Ω = SHX) (a1 : Nat) (ha1 : sRt Ω a1 shState)  : ∀ (n : Nat) (y2 : Int32) (y3 : Int32) (y4 : Int64) (y6 : Int32) (σ : MS) , GE X Ω 9 0 0 (emWI) 0 0 8 [(0, .ref 44), (1, .ref a1), (2, .int y2), (3, .int y3), (4, .long y4), (6, .int y6)] [] σ (b_X1_heirOf_8 a1 n y2 y3 y4 y6 σ)
  | 0, _, _, _, _, _ => g_none
  | n + 1, y2, y3, y4, y6, σ => by
    have hk8 := c_X1_heirOf_8 hX hO hΩ a1 ha1 n
    unfold b_X1_heirOf_8
    refine g_iload hX (dc_X1_heirOf 6 rfl) 5 rfl ?_
    refine g_aload_n hX (dc_X1_heirOf 7 rfl) rfl 0 rfl ?_
    refine g_getF (q := 23) hX (dc_X1_heirOf 8 rfl) fl_X1_21 (by decide) rfl (stS hΩ 44 rfl) rfl ?_
    refine g_getI hX (dc_X1_heirOf 9 rfl) fl_X1_94 (by decide) rfl (stS hΩ 23 rfl) ?_
    refine g_icmp_ge (tgt := 92) hX (dc_X1_heirOf 10 rfl) (by decide) (fun h12 => ?_) (fun h12 => ?_)
    · refine g_iload_n hX (dc_X1_heirOf 46 rfl) rfl 3 rfl ?_
      exact g_iret hX (dc_X1_heirOf 47 rfl) rfl rfl (Nat.le_refl _) (Nat.le_refl _)
    · refine g_aload_n hX (dc_X1_heirOf 11 rfl) rfl 0 rfl ?_
      refine g_getF (q := 23) hX (dc_X1_heirOf 12 rfl) fl_X1_21 (by decide) rfl (stS hΩ 44 rfl) rfl ?_
      refine g_iload hX (dc_X1_heirOf 13 rfl) 5 rfl ?_
      refine g_aload_n hX (dc_X1_heirOf 14 rfl) rfl 1 rfl ?_
      refine g_getI hX (dc_X1_heirOf 15 rfl) fl_X1_40 (by decide) rfl (ha1.tf 0 rfl) ?_
      refine gV_PI (As := [.int y6, .int (sI σ a1 5)]) (st := []) hX (dc_X1_heirOf 16 rfl) ml_X1_43 (con_X3_isAsleep hO hΩ y6 (sI σ a1 5) σ) (stS hΩ 23 rfl) rfl rfl ⟨by decide, by decide⟩ ⟨rfl, rfl⟩ ⟨Nat.zero_le _, Nat.zero_le _⟩ (Nat.le_of_ble_eq_true rfl) (fun r13 _ => ?_)
      refine g_if_ne (tgt := 86) hX (dc_X1_heirOf 17 rfl) (by decide) (fun h14 => ?_) (fun h14 => ?_)
      · refine g_aload_n hX (dc_X1_heirOf 18 rfl) rfl 1 rfl ?_
        refine g_iload hX (dc_X1_heirOf 19 rfl) 5 rfl ?_
        refine gV_PI (As := [.int y6]) (st := []) hX (dc_X1_heirOf 20 rfl) ml_X1_97 (con_X8_load hO hΩ a1 y6 σ ha1) (ha1.tf 0 rfl) rfl rfl ⟨by decide, by decide⟩ ⟨rfl, rfl⟩ ⟨Nat.zero_le _, Nat.zero_le _⟩ (Nat.le_of_ble_eq_true rfl) (fun r15 _ => ?_)
        refine g_aload_n hX (dc_X1_heirOf 21 rfl) rfl 0 rfl ?_
        refine g_iload hX (dc_X1_heirOf 22 rfl) 5 rfl ?_
        refine gV_PI (As := [.int y6]) (st := [.int r15]) hX (dc_X1_heirOf 23 rfl) ml_X1_100 (con_X1_handsOf hO hΩ y6 σ) (stS hΩ 44 rfl) rfl rfl ⟨by decide, by decide⟩ ⟨rfl, rfl⟩ ⟨Nat.zero_le _, Nat.zero_le _⟩ (Nat.le_of_ble_eq_true rfl) (fun r16 _ => ?_)
        refine g_icmp_ge (tgt := 86) hX (dc_X1_heirOf 24 rfl) (by decide) (fun h17 => ?_) (fun h17 => ?_)
        · exact g_sub [0, 1, 2, 3, 4, 5] rfl (c_X1_heirOf_86 hX hO hΩ a1 ha1 _ hk8 (y2) (y3) (y4) (y6) σ)
        · refine g_aload_n hX (dc_X1_heirOf 25 rfl) rfl 0 rfl ?_
          refine g_getN (raw := false) hX (dc_X1_heirOf 26 rfl) fl_X1_25 (by decide) (Or.inl rfl) (stS hΩ 44 rfl) (fun _ => ?_) (fun b18 hb19 => ?_)
          · refine g_ifnonnull_N (tgt := 0) hX (dc_X1_heirOf 27 rfl) ?_
            refine g_iload hX (dc_X1_heirOf 28 rfl) 5 rfl ?_
            exact g_iret hX (dc_X1_heirOf 29 rfl) rfl rfl (Nat.le_refl _) (Nat.le_refl _)
          · refine g_chkd (fun ho20 => ?_)
            refine g_ifnonnull_R (tgt := 61) hX (dc_X1_heirOf 27 rfl) (by decide) ?_
            refine g_aload_n hX (dc_X1_heirOf 30 rfl) rfl 0 rfl ?_
            refine g_aload_n hX (dc_X1_heirOf 31 rfl) rfl 1 rfl ?_
            refine g_iload_n hX (dc_X1_heirOf 32 rfl) rfl 2 rfl ?_
            refine g_iload hX (dc_X1_heirOf 33 rfl) 5 rfl ?_
            refine gV_WL (As := [.ref a1, .int y2, .int y6]) (st := []) hX (dc_X1_heirOf 34 rfl) ml_X1_103 (con_X1_sumFor hO hΩ a1 y2 y6 σ ha1) (stS hΩ 44 rfl) rfl rfl ⟨by decide, by decide⟩ ⟨rfl, rfl⟩ ⟨Nat.zero_le _, Nat.zero_le _⟩ (Nat.le_of_ble_eq_true rfl) (fun r21 _ => ?_)
            refine g_lstore (L' := [(7, .long r21.1), (0, .ref 44), (1, .ref a1), (2, .int y2), (3, .int y3), (4, .long y4), (6, .int y6)]) hX (dc_X1_heirOf 35 rfl) (by decide) rfl ?_
            refine g_lload hX (dc_X1_heirOf 36 rfl) 0 rfl ?_
            refine g_lload hX (dc_X1_heirOf 37 rfl) 5 rfl ?_
            refine g_lcmp hX (dc_X1_heirOf 38 rfl) ?_
            refine g_if_le (tgt := 86) hX (dc_X1_heirOf 39 rfl) (by decide) (fun h22 => ?_) (fun h22 => ?_)
            · exact g_sub [1, 2, 3, 4, 5, 6] rfl (c_X1_heirOf_86 hX hO hΩ a1 ha1 _ hk8 (y2) (y3) (y4) (y6) r21.2)
            · refine g_lload hX (dc_X1_heirOf 40 rfl) 0 rfl ?_
              refine g_lstore (L' := [(4, .long r21.1), (7, .long r21.1), (0, .ref 44), (1, .ref a1), (2, .int y2), (3, .int y3), (6, .int y6)]) hX (dc_X1_heirOf 41 rfl) (by decide) rfl ?_
              refine g_iload hX (dc_X1_heirOf 42 rfl) 6 rfl ?_
              refine g_istore_n (L' := [(3, .int y6), (4, .long r21.1), (7, .long r21.1), (0, .ref 44), (1, .ref a1), (2, .int y2), (6, .int y6)]) hX (dc_X1_heirOf 43 rfl) rfl (by decide) rfl ?_
              exact g_sub [3, 4, 5, 0, 1, 6] rfl (c_X1_heirOf_86 hX hO hΩ a1 ha1 _ hk8 (y2) (y6) (r21.1) (y6) r21.2)
      · exact g_sub [0, 1, 2, 3, 4, 5] rfl (c_X1_heirOf_86 hX hO hΩ a1 ha1 _ hk8 (y2) (y3) (y4) (y6) σ)
def b_X1_heirOf_0 (a1 : Nat)  (x2 : Int32)  (σ : MS) : Option (Int32 × MS) := (b_X1_heirOf_8 a1 FU (x2) ((-1 : Int32)) ((0 : Int64)) ((0 : Int32)) σ)
set_option maxHeartbeats 4000000 in
set_option maxRecDepth 20000 in
theorem c_X1_heirOf_0 {X : CX} {Ω : OM} (hX : CF X Ω RX1 cX1_heirOf 9 (some .int) rm_X1_heirOf) (hO : OKO Ω) (hΩ : oSH Ω = SHX) (a1 : Nat) (ha1 : sRt Ω a1 shState)  (x2 : Int32)  (σ : MS)  : GE X Ω 9 0 0 (emWI) 0 0 0 [(0, .ref 44), (1, .ref a1), (2, .int x2)] [] σ (b_X1_heirOf_0 a1 x2 σ) := by
  unfold b_X1_heirOf_0
  refine g_iconst (w := (-1 : Int32)) hX (dc_X1_heirOf 0 rfl) (by decide) ?_
  refine g_istore_n (L' := [(3, .int (-1 : Int32)), (0, .ref 44), (1, .ref a1), (2, .int x2)]) hX (dc_X1_heirOf 1 rfl) rfl (by decide) rfl ?_
  refine g_lconst (w := (0 : Int64)) hX (dc_X1_heirOf 2 rfl) (by decide) ?_
  refine g_lstore (L' := [(4, .long (0 : Int64)), (3, .int (-1 : Int32)), (0, .ref 44), (1, .ref a1), (2, .int x2)]) hX (dc_X1_heirOf 3 rfl) (by decide) rfl ?_
  refine g_iconst (w := (0 : Int32)) hX (dc_X1_heirOf 4 rfl) (by decide) ?_
  refine g_istore (L' := [(6, .int (0 : Int32)), (4, .long (0 : Int64)), (3, .int (-1 : Int32)), (0, .ref 44), (1, .ref a1), (2, .int x2)]) hX (dc_X1_heirOf 5 rfl) (by decide) rfl ?_
  exact g_sub [3, 4, 5, 2, 1, 0] rfl (c_X1_heirOf_8 hX hO hΩ a1 ha1 FU (x2) ((-1 : Int32)) ((0 : Int64)) ((0 : Int32)) σ)
def f_X1_heirOf (a1 : Nat) (x2 : Int32) (σ : MS) : Option (Int32 × MS) := b_X1_heirOf_0 a1 x2 σ
theorem con_X1_heirOf {Ω : OM} (hO : OKO Ω) (hΩ : oSH Ω = SHX) (a1 : Nat) (x2 : Int32) (σ : MS) (ha1 : sRt Ω a1 shState) : Con Ω yX1_heirOf cX1_heirOf 9 (some .int) rm_X1_heirOf (emWI) [.ref 44, .ref a1, .int x2] σ (f_X1_heirOf a1 x2 σ) :=
  con_of hO (by decide +kernel) (Nat.le_of_ble_eq_true rfl) rfl (fun X hX _ => c_X1_heirOf_0 hX hO hΩ a1 ha1 x2 σ )
def it_X8_lay : List (Nat × Instr × Nat × Nat) := [(0, .aload_n 0, 1, 1), (1, .getfield 9, 3, 4), (4, .iload_n 1, 1, 5), (5, .iconst (-1), 1, 6), (6, .iastore, 1, 7), (7, .aload_n 0, 1, 8), (8, .dup, 1, 9), (9, .getfield 27, 3, 12), (12, .iconst 1, 1, 13), (13, .iload_n 1, 1, 14), (14, .ishl, 1, 15), (15, .iconst (-1), 1, 16), (16, .ixor, 1, 17), (17, .iand, 1, 18), (18, .putfield 27, 3, 21), (21, .return_, 1, 22)]
theorem id_X8_lay : ∀ q ∈ it_X8_lay, decode cX8_lay q.1 = .ok (q.2.1, q.2.2.1) ∧ q.1 + q.2.2.1 = q.2.2.2 := by decide +kernel
theorem dc_X8_lay {pc : Nat} {i : Instr} {n pc' : Nat} (j : Nat) (h : it_X8_lay[j]? = some (pc, i, n, pc')) : Dc cX8_lay pc i n pc' := dc_of id_X8_lay j h
abbrev rm_X8_lay : Room := { frames := 0, cells := 0, slots := 0, locals := 0 }
def b_X8_lay_0 (a0 : Nat)  (x1 : Int32)  (σ : MS) : Option (MS) := chk (inb x1 6) (some ((wI (wI σ (a0 + 1) (ix x1) (-1 : Int32)) a0 3 ((sI (wI σ (a0 + 1) (ix x1) (-1 : Int32)) a0 3) &&& (((1 : Int32) <<< (x1 &&& 31)) ^^^ (-1 : Int32))))))
set_option maxHeartbeats 4000000 in
set_option maxRecDepth 20000 in
theorem c_X8_lay_0 {X : CX} {Ω : OM} (hX : CF X Ω RX8 cX8_lay 2 none rm_X8_lay) (hO : OKO Ω) (hΩ : oSH Ω = SHX) (a0 : Nat) (ha0 : sRt Ω a0 shState)  (x1 : Int32)  (σ : MS)  : GE X Ω 2 0 0 (emWV) 0 0 0 [(0, .ref a0), (1, .int x1)] [] σ (b_X8_lay_0 a0 x1 σ) := by
  unfold b_X8_lay_0
  refine g_aload_n hX (dc_X8_lay 0 rfl) rfl 0 rfl ?_
  refine g_getF (q := (a0 + 1)) hX (dc_X8_lay 1 rfl) fl_X8_9 (by decide) rfl (ha0.tf 0 rfl) rfl ?_
  refine g_iload_n hX (dc_X8_lay 2 rfl) rfl 1 rfl ?_
  refine g_iconst (w := (-1 : Int32)) hX (dc_X8_lay 3 rfl) (by decide) ?_
  refine g_chk (fun hc2 => ?_)
  refine g_iast hX (dc_X8_lay 4 rfl) (ha0.tf 1 rfl) hc2 rfl ?_
  refine g_aload_n hX (dc_X8_lay 5 rfl) rfl 0 rfl ?_
  refine g_dup hX (dc_X8_lay 6 rfl) rfl ?_
  refine g_getI hX (dc_X8_lay 7 rfl) fl_X8_27 (by decide) rfl (ha0.tf 0 rfl) ?_
  refine g_iconst (w := (1 : Int32)) hX (dc_X8_lay 8 rfl) (by decide) ?_
  refine g_iload_n hX (dc_X8_lay 9 rfl) rfl 1 rfl ?_
  refine g_ishl hX (dc_X8_lay 10 rfl) ?_
  refine g_iconst (w := (-1 : Int32)) hX (dc_X8_lay 11 rfl) (by decide) ?_
  refine g_ixor hX (dc_X8_lay 12 rfl) ?_
  refine g_iand hX (dc_X8_lay 13 rfl) ?_
  refine g_putI (raw := false) hX (dc_X8_lay 14 rfl) fl_X8_27 (by decide) ⟨rfl, rfl⟩ ⟨rfl, rfl⟩ (ha0.tf 0 rfl) ?_
  exact g_vret hX (dc_X8_lay 15 rfl) rfl (Nat.le_refl _) (Nat.le_refl _)
def f_X8_lay (a0 : Nat) (x1 : Int32) (σ : MS) : Option (MS) := b_X8_lay_0 a0 x1 σ
theorem con_X8_lay {Ω : OM} (hO : OKO Ω) (hΩ : oSH Ω = SHX) (a0 : Nat) (x1 : Int32) (σ : MS) (ha0 : sRt Ω a0 shState) : Con Ω yX8_lay cX8_lay 2 none rm_X8_lay (emWV) [.ref a0, .int x1] σ (f_X8_lay a0 x1 σ) :=
  con_of hO (by decide +kernel) (Nat.le_of_ble_eq_true rfl) rfl (fun X hX _ => c_X8_lay_0 hX hO hΩ a0 ha0 x1 σ )
def it_J9_min_7cf53 : List (Nat × Instr × Nat × Nat) := [(0, .iload_n 0, 1, 1), (1, .iload_n 1, 1, 2), (2, .if_icmp .gt 7, 3, 5), (5, .iload_n 0, 1, 6), (6, .goto 4, 3, 9), (9, .iload_n 1, 1, 10), (10, .ireturn, 1, 11)]
theorem id_J9_min_7cf53 : ∀ q ∈ it_J9_min_7cf53, decode cJ9_min_7cf53 q.1 = .ok (q.2.1, q.2.2.1) ∧ q.1 + q.2.2.1 = q.2.2.2 := by decide +kernel
theorem dc_J9_min_7cf53 {pc : Nat} {i : Instr} {n pc' : Nat} (j : Nat) (h : it_J9_min_7cf53[j]? = some (pc, i, n, pc')) : Dc cJ9_min_7cf53 pc i n pc' := dc_of id_J9_min_7cf53 j h
abbrev rm_J9_min_7cf53 : Room := { frames := 0, cells := 0, slots := 0, locals := 0 }
def b_J9_min_7cf53_10    (s0 : Int32)  : Option (Int32) := some s0
set_option maxHeartbeats 4000000 in
set_option maxRecDepth 20000 in
theorem c_J9_min_7cf53_10 {X : CX} {Ω : OM} (hX : CF X Ω RJ9 cJ9_min_7cf53 2 (some .int) rm_J9_min_7cf53) (hO : OKO Ω) (hΩ : oSH Ω = SHX)   (σ : MS)   (s0 : Int32)   : GE X Ω 2 0 0 (emPI σ) 0 0 10 [] [.int s0] σ (b_J9_min_7cf53_10  s0) := by
  unfold b_J9_min_7cf53_10
  exact g_iret hX (dc_J9_min_7cf53 6 rfl) rfl rfl (Nat.le_refl _) (Nat.le_refl _)
def b_J9_min_7cf53_0   (x0 : Int32) (x1 : Int32)   : Option (Int32) := (if x1 < x0 then (b_J9_min_7cf53_10 (x1)) else (b_J9_min_7cf53_10 (x0)))
set_option maxHeartbeats 4000000 in
set_option maxRecDepth 20000 in
theorem c_J9_min_7cf53_0 {X : CX} {Ω : OM} (hX : CF X Ω RJ9 cJ9_min_7cf53 2 (some .int) rm_J9_min_7cf53) (hO : OKO Ω) (hΩ : oSH Ω = SHX)   (σ : MS)  (x0 : Int32) (x1 : Int32)    : GE X Ω 2 0 0 (emPI σ) 0 0 0 [(0, .int x0), (1, .int x1)] [] σ (b_J9_min_7cf53_0  x0 x1) := by
  unfold b_J9_min_7cf53_0
  refine g_iload_n hX (dc_J9_min_7cf53 0 rfl) rfl 0 rfl ?_
  refine g_iload_n hX (dc_J9_min_7cf53 1 rfl) rfl 1 rfl ?_
  refine g_icmp_gt (tgt := 9) hX (dc_J9_min_7cf53 2 rfl) (by decide) (fun h2 => ?_) (fun h2 => ?_)
  · refine g_iload_n hX (dc_J9_min_7cf53 5 rfl) rfl 1 rfl ?_
    exact g_sub [] rfl (c_J9_min_7cf53_10 hX hO hΩ σ (x1))
  · refine g_iload_n hX (dc_J9_min_7cf53 3 rfl) rfl 0 rfl ?_
    refine g_goto (tgt := 10) hX (dc_J9_min_7cf53 4 rfl) (by decide) ?_
    exact g_sub [] rfl (c_J9_min_7cf53_10 hX hO hΩ σ (x0))
def f_J9_min_7cf53 (x0 : Int32) (x1 : Int32)  : Option (Int32) := b_J9_min_7cf53_0  x0 x1 
theorem con_J9_min_7cf53 {Ω : OM} (hO : OKO Ω) (hΩ : oSH Ω = SHX) (x0 : Int32) (x1 : Int32) (σ : MS)  : Con Ω yJ9_min_7cf53 cJ9_min_7cf53 2 (some .int) rm_J9_min_7cf53 (emPI σ) [.int x0, .int x1] σ (f_J9_min_7cf53 x0 x1 ) :=
  con_ofF hO (by decide +kernel) (Nat.le_of_ble_eq_true rfl) rfl (fun X hX _ => c_J9_min_7cf53_0 hX hO hΩ   σ x0 x1)
def it_X1_payHolders : List (Nat × Instr × Nat × Nat) := [(0, .iconst 0, 1, 1), (1, .istore_n 2, 1, 2), (2, .iload_n 2, 1, 3), (3, .aload_n 0, 1, 4), (4, .getfield 21, 3, 7), (7, .getfield 29, 3, 10), (10, .if_icmp .ge 61, 3, 13), (13, .aload_n 1, 1, 14), (14, .getfield 34, 3, 17), (17, .iload_n 2, 1, 18), (18, .iaload, 1, 19), (19, .istore_n 3, 1, 20), (20, .iload_n 3, 1, 21), (21, .iconst (-1), 1, 22), (22, .if_icmp .eq 43, 3, 25), (25, .aload_n 0, 1, 26), (26, .getfield 21, 3, 29), (29, .getfield 65, 3, 32), (32, .aload_n 0, 1, 33), (33, .getfield 21, 3, 36), (36, .getfield 68, 3, 39), (39, .iload_n 2, 1, 40), (40, .iaload, 1, 41), (41, .iaload, 1, 42), (42, .istore 4, 2, 44), (44, .aload_n 1, 1, 45), (45, .getfield 71, 3, 48), (48, .iload_n 3, 1, 49), (49, .sipush 9999, 3, 52), (52, .aload_n 1, 1, 53), (53, .getfield 71, 3, 56), (56, .iload_n 3, 1, 57), (57, .iaload, 1, 58), (58, .iload 4, 2, 60), (60, .iadd, 1, 61), (61, .invokestatic 74, 3, 64), (64, .iastore, 1, 65), (65, .iinc 2 1, 3, 68), (68, .goto (-66), 3, 71), (71, .return_, 1, 72)]
theorem id_X1_payHolders : ∀ q ∈ it_X1_payHolders, decode cX1_payHolders q.1 = .ok (q.2.1, q.2.2.1) ∧ q.1 + q.2.2.1 = q.2.2.2 := by decide +kernel
theorem dc_X1_payHolders {pc : Nat} {i : Instr} {n pc' : Nat} (j : Nat) (h : it_X1_payHolders[j]? = some (pc, i, n, pc')) : Dc cX1_payHolders pc i n pc' := dc_of id_X1_payHolders j h
abbrev rm_X1_payHolders : Room := { frames := 1, cells := 0, slots := 0, locals := 21 }
def b_X1_payHolders_65 (a1 : Nat) (k2 : Int32 → MS → Option (MS))  (y2 : Int32) (σ : MS) : Option (MS) := (k2 ((y2 + (1 : Int32))) σ)
set_option maxHeartbeats 4000000 in
set_option maxRecDepth 20000 in
theorem c_X1_payHolders_65 {X : CX} {Ω : OM} (hX : CF X Ω RX1 cX1_payHolders 5 none rm_X1_payHolders) (hO : OKO Ω) (hΩ : oSH Ω = SHX) (a1 : Nat) (ha1 : sRt Ω a1 shState) (k2 : Int32 → MS → Option (MS)) (hk2 : ∀ (y2 : Int32) (σ : MS) , GE X Ω 5 0 0 (emWV) 0 0 2 [(0, .ref 44), (1, .ref a1), (2, .int y2)] [] σ (k2 y2 σ))  (y2 : Int32) (σ : MS)  : GE X Ω 5 0 0 (emWV) 0 0 65 [(0, .ref 44), (1, .ref a1), (2, .int y2)] [] σ (b_X1_payHolders_65 a1 k2 y2 σ) := by
  unfold b_X1_payHolders_65
  refine g_iinc (w := (y2 + (1 : Int32))) (L' := [(2, .int (y2 + (1 : Int32))), (0, .ref 44), (1, .ref a1)]) hX (dc_X1_payHolders 37 rfl) 2 rfl rfl (by decide) rfl ?_
  refine g_goto (tgt := 2) hX (dc_X1_payHolders 38 rfl) (by decide) ?_
  exact g_sub [1, 2, 0] rfl (hk2 ((y2 + (1 : Int32))) σ )
def b_X1_payHolders_2 (a1 : Nat)  : Nat → Int32 → MS → Option (MS)
  | 0, _, _ => none
  | n + 1, y2, σ => (if (sI σ 23 4) ≤ y2 then some (σ) else chk (inb y2 6) ((if (sI σ (a1 + 1) (ix y2)) = (-1 : Int32) then (b_X1_payHolders_65 a1 (b_X1_payHolders_2 a1 n) (y2) σ) else chk (inb y2 6) (chk (inb (sI σ 29 (ix y2)) 5) (chk (inb (sI σ (a1 + 1) (ix y2)) 4) ((f_J9_min_7cf53 (9999 : Int32) ((sI σ (a1 + 3) (ix (sI σ (a1 + 1) (ix y2)))) + (sI σ 25 (ix (sI σ 29 (ix y2)))))).bind (fun r15 => chk (inb (sI σ (a1 + 1) (ix y2)) 4) ((b_X1_payHolders_65 a1 (b_X1_payHolders_2 a1 n) (y2) (wI σ (a1 + 3) (ix (sI σ (a1 + 1) (ix y2))) r15))))))))))
set_option maxHeartbeats 4000000 in
set_option maxRecDepth 20000 in
theorem c_X1_payHolders_2 {X : CX} {Ω : OM} (hX : CF X Ω RX1 cX1_payHolders 5 none rm_X1_payHolders) (hO : OKO Ω) (hΩ : oSH Ω = SHX) (a1 : Nat) (ha1 : sRt Ω a1 shState)  : ∀ (n : Nat) (y2 : Int32) (σ : MS) , GE X Ω 5 0 0 (emWV) 0 0 2 [(0, .ref 44), (1, .ref a1), (2, .int y2)] [] σ (b_X1_payHolders_2 a1 n y2 σ)
  | 0, _, _ => g_none
  | n + 1, y2, σ => by
    have hk2 := c_X1_payHolders_2 hX hO hΩ a1 ha1 n
    unfold b_X1_payHolders_2
    refine g_iload_n hX (dc_X1_payHolders 2 rfl) rfl 2 rfl ?_
    refine g_aload_n hX (dc_X1_payHolders 3 rfl) rfl 0 rfl ?_
    refine g_getF (q := 23) hX (dc_X1_payHolders 4 rfl) fl_X1_21 (by decide) rfl (stS hΩ 44 rfl) rfl ?_
    refine g_getI hX (dc_X1_payHolders 5 rfl) fl_X1_29 (by decide) rfl (stS hΩ 23 rfl) ?_
    refine g_icmp_ge (tgt := 71) hX (dc_X1_payHolders 6 rfl) (by decide) (fun h9 => ?_) (fun h9 => ?_)
    · exact g_vret hX (dc_X1_payHolders 39 rfl) rfl (Nat.le_refl _) (Nat.le_refl _)
    · refine g_aload_n hX (dc_X1_payHolders 7 rfl) rfl 1 rfl ?_
      refine g_getF (q := (a1 + 1)) hX (dc_X1_payHolders 8 rfl) fl_X1_34 (by decide) rfl (ha1.tf 0 rfl) rfl ?_
      refine g_iload_n hX (dc_X1_payHolders 9 rfl) rfl 2 rfl ?_
      refine g_chk (fun hc10 => ?_)
      refine g_iald hX (dc_X1_payHolders 10 rfl) (ha1.tf 1 rfl) hc10 rfl ?_
      refine g_istore_n (L' := [(3, .int (sI σ (a1 + 1) (ix y2))), (0, .ref 44), (1, .ref a1), (2, .int y2)]) hX (dc_X1_payHolders 11 rfl) rfl (by decide) rfl ?_
      refine g_iload_n hX (dc_X1_payHolders 12 rfl) rfl 0 rfl ?_
      refine g_iconst (w := (-1 : Int32)) hX (dc_X1_payHolders 13 rfl) (by decide) ?_
      refine g_icmp_eq (tgt := 65) hX (dc_X1_payHolders 14 rfl) (by decide) (fun h11 => ?_) (fun h11 => ?_)
      · exact g_sub [1, 2, 3] rfl (c_X1_payHolders_65 hX hO hΩ a1 ha1 _ hk2 (y2) σ)
      · refine g_aload_n hX (dc_X1_payHolders 15 rfl) rfl 1 rfl ?_
        refine g_getF (q := 23) hX (dc_X1_payHolders 16 rfl) fl_X1_21 (by decide) rfl (stS hΩ 44 rfl) rfl ?_
        refine g_getF (q := 25) hX (dc_X1_payHolders 17 rfl) fl_X1_65 (by decide) rfl (stS hΩ 23 rfl) rfl ?_
        refine g_aload_n hX (dc_X1_payHolders 18 rfl) rfl 1 rfl ?_
        refine g_getF (q := 23) hX (dc_X1_payHolders 19 rfl) fl_X1_21 (by decide) rfl (stS hΩ 44 rfl) rfl ?_
        refine g_getF (q := 29) hX (dc_X1_payHolders 20 rfl) fl_X1_68 (by decide) rfl (stS hΩ 23 rfl) rfl ?_
        refine g_iload_n hX (dc_X1_payHolders 21 rfl) rfl 3 rfl ?_
        refine g_chk (fun hc12 => ?_)
        refine g_iald hX (dc_X1_payHolders 22 rfl) (stS hΩ 29 rfl) hc12 rfl ?_
        refine g_chk (fun hc13 => ?_)
        refine g_iald hX (dc_X1_payHolders 23 rfl) (stS hΩ 25 rfl) hc13 rfl ?_
        refine g_istore (L' := [(4, .int (sI σ 25 (ix (sI σ 29 (ix y2))))), (3, .int (sI σ (a1 + 1) (ix y2))), (0, .ref 44), (1, .ref a1), (2, .int y2)]) hX (dc_X1_payHolders 24 rfl) (by decide) rfl ?_
        refine g_aload_n hX (dc_X1_payHolders 25 rfl) rfl 3 rfl ?_
        refine g_getF (q := (a1 + 3)) hX (dc_X1_payHolders 26 rfl) fl_X1_71 (by decide) rfl (ha1.tf 0 rfl) rfl ?_
        refine g_iload_n hX (dc_X1_payHolders 27 rfl) rfl 1 rfl ?_
        refine g_sipush (w := (9999 : Int32)) hX (dc_X1_payHolders 28 rfl) (by decide) ?_
        refine g_aload_n hX (dc_X1_payHolders 29 rfl) rfl 3 rfl ?_
        refine g_getF (q := (a1 + 3)) hX (dc_X1_payHolders 30 rfl) fl_X1_71 (by decide) rfl (ha1.tf 0 rfl) rfl ?_
        refine g_iload_n hX (dc_X1_payHolders 31 rfl) rfl 1 rfl ?_
        refine g_chk (fun hc14 => ?_)
        refine g_iald hX (dc_X1_payHolders 32 rfl) (ha1.tf 3 rfl) hc14 rfl ?_
        refine g_iload hX (dc_X1_payHolders 33 rfl) 0 rfl ?_
        refine g_iadd hX (dc_X1_payHolders 34 rfl) ?_
        refine gS_PI (As := [.int (9999 : Int32), .int ((sI σ (a1 + 3) (ix (sI σ (a1 + 1) (ix y2)))) + (sI σ 25 (ix (sI σ 29 (ix y2)))))]) (st := [.int (sI σ (a1 + 1) (ix y2)), .ref (a1 + 3)]) hX (dc_X1_payHolders 35 rfl) ml_X1_74 (con_J9_min_7cf53 hO hΩ (9999 : Int32) ((sI σ (a1 + 3) (ix (sI σ (a1 + 1) (ix y2)))) + (sI σ 25 (ix (sI σ 29 (ix y2))))) σ) rfl rfl ⟨by decide, by decide⟩ ⟨rfl, rfl⟩ ⟨Nat.zero_le _, Nat.zero_le _⟩ (Nat.le_of_ble_eq_true rfl) (fun r15 _ => ?_)
        refine g_chk (fun hc16 => ?_)
        refine g_iast hX (dc_X1_payHolders 36 rfl) (ha1.tf 3 rfl) hc16 rfl ?_
        exact g_sub [2, 3, 4] rfl (c_X1_payHolders_65 hX hO hΩ a1 ha1 _ hk2 (y2) (wI σ (a1 + 3) (ix (sI σ (a1 + 1) (ix y2))) r15))
def b_X1_payHolders_0 (a1 : Nat)    (σ : MS) : Option (MS) := (b_X1_payHolders_2 a1 FU ((0 : Int32)) σ)
set_option maxHeartbeats 4000000 in
set_option maxRecDepth 20000 in
theorem c_X1_payHolders_0 {X : CX} {Ω : OM} (hX : CF X Ω RX1 cX1_payHolders 5 none rm_X1_payHolders) (hO : OKO Ω) (hΩ : oSH Ω = SHX) (a1 : Nat) (ha1 : sRt Ω a1 shState)    (σ : MS)  : GE X Ω 5 0 0 (emWV) 0 0 0 [(0, .ref 44), (1, .ref a1)] [] σ (b_X1_payHolders_0 a1 σ) := by
  unfold b_X1_payHolders_0
  refine g_iconst (w := (0 : Int32)) hX (dc_X1_payHolders 0 rfl) (by decide) ?_
  refine g_istore_n (L' := [(2, .int (0 : Int32)), (0, .ref 44), (1, .ref a1)]) hX (dc_X1_payHolders 1 rfl) rfl (by decide) rfl ?_
  exact g_sub [1, 2, 0] rfl (c_X1_payHolders_2 hX hO hΩ a1 ha1 FU ((0 : Int32)) σ)
def f_X1_payHolders (a1 : Nat) (σ : MS) : Option (MS) := b_X1_payHolders_0 a1  σ
theorem con_X1_payHolders {Ω : OM} (hO : OKO Ω) (hΩ : oSH Ω = SHX) (a1 : Nat) (σ : MS) (ha1 : sRt Ω a1 shState) : Con Ω yX1_payHolders cX1_payHolders 5 none rm_X1_payHolders (emWV) [.ref 44, .ref a1] σ (f_X1_payHolders a1 σ) :=
  con_of hO (by decide +kernel) (Nat.le_of_ble_eq_true rfl) rfl (fun X hX _ => c_X1_payHolders_0 hX hO hΩ a1 ha1  σ )
def it_X8_payIntoChest : List (Nat × Instr × Nat × Nat) := [(0, .aload_n 0, 1, 1), (1, .getfield 18, 3, 4), (4, .iload_n 1, 1, 5), (5, .dup2, 1, 6), (6, .iaload, 1, 7), (7, .iload_n 2, 1, 8), (8, .isub, 1, 9), (9, .iastore, 1, 10), (10, .aload_n 0, 1, 11), (11, .ldc 47, 2, 13), (13, .aload_n 0, 1, 14), (14, .getfield 31, 3, 17), (17, .iload_n 2, 1, 18), (18, .iadd, 1, 19), (19, .invokestatic 48, 3, 22), (22, .putfield 31, 3, 25), (25, .return_, 1, 26)]
theorem id_X8_payIntoChest : ∀ q ∈ it_X8_payIntoChest, decode cX8_payIntoChest q.1 = .ok (q.2.1, q.2.2.1) ∧ q.1 + q.2.2.1 = q.2.2.2 := by decide +kernel
theorem dc_X8_payIntoChest {pc : Nat} {i : Instr} {n pc' : Nat} (j : Nat) (h : it_X8_payIntoChest[j]? = some (pc, i, n, pc')) : Dc cX8_payIntoChest pc i n pc' := dc_of id_X8_payIntoChest j h
abbrev rm_X8_payIntoChest : Room := { frames := 1, cells := 0, slots := 0, locals := 21 }
def b_X8_payIntoChest_0 (a0 : Nat)  (x1 : Int32) (x2 : Int32)  (σ : MS) : Option (MS) := chk (inb x1 4) (chk (inb x1 4) ((f_J9_min_7cf53 (99999 : Int32) ((sI (wI σ (a0 + 3) (ix x1) ((sI σ (a0 + 3) (ix x1)) - x2)) a0 4) + x2)).bind (fun r6 => some ((wI (wI σ (a0 + 3) (ix x1) ((sI σ (a0 + 3) (ix x1)) - x2)) a0 4 r6)))))
set_option maxHeartbeats 4000000 in
set_option maxRecDepth 20000 in
theorem c_X8_payIntoChest_0 {X : CX} {Ω : OM} (hX : CF X Ω RX8 cX8_payIntoChest 3 none rm_X8_payIntoChest) (hO : OKO Ω) (hΩ : oSH Ω = SHX) (a0 : Nat) (ha0 : sRt Ω a0 shState)  (x1 : Int32) (x2 : Int32)  (σ : MS)  : GE X Ω 3 0 0 (emWV) 0 0 0 [(0, .ref a0), (1, .int x1), (2, .int x2)] [] σ (b_X8_payIntoChest_0 a0 x1 x2 σ) := by
  unfold b_X8_payIntoChest_0
  refine g_aload_n hX (dc_X8_payIntoChest 0 rfl) rfl 0 rfl ?_
  refine g_getF (q := (a0 + 3)) hX (dc_X8_payIntoChest 1 rfl) fl_X8_18 (by decide) rfl (ha0.tf 0 rfl) rfl ?_
  refine g_iload_n hX (dc_X8_payIntoChest 2 rfl) rfl 1 rfl ?_
  refine g_dup2 hX (dc_X8_payIntoChest 3 rfl) rfl rfl ?_
  refine g_chk (fun hc4 => ?_)
  refine g_iald hX (dc_X8_payIntoChest 4 rfl) (ha0.tf 3 rfl) hc4 rfl ?_
  refine g_iload_n hX (dc_X8_payIntoChest 5 rfl) rfl 2 rfl ?_
  refine g_isub hX (dc_X8_payIntoChest 6 rfl) ?_
  refine g_chk (fun hc5 => ?_)
  refine g_iast hX (dc_X8_payIntoChest 7 rfl) (ha0.tf 3 rfl) hc5 rfl ?_
  refine g_aload_n hX (dc_X8_payIntoChest 8 rfl) rfl 0 rfl ?_
  refine g_ldc hX (dc_X8_payIntoChest 9 rfl) wk_X8_47 ?_
  refine g_aload_n hX (dc_X8_payIntoChest 10 rfl) rfl 0 rfl ?_
  refine g_getI hX (dc_X8_payIntoChest 11 rfl) fl_X8_31 (by decide) rfl (ha0.tf 0 rfl) ?_
  refine g_iload_n hX (dc_X8_payIntoChest 12 rfl) rfl 2 rfl ?_
  refine g_iadd hX (dc_X8_payIntoChest 13 rfl) ?_
  refine gS_PI (As := [.int (99999 : Int32), .int ((sI (wI σ (a0 + 3) (ix x1) ((sI σ (a0 + 3) (ix x1)) - x2)) a0 4) + x2)]) (st := [.ref a0]) hX (dc_X8_payIntoChest 14 rfl) ml_X8_48 (con_J9_min_7cf53 hO hΩ (99999 : Int32) ((sI (wI σ (a0 + 3) (ix x1) ((sI σ (a0 + 3) (ix x1)) - x2)) a0 4) + x2) (wI σ (a0 + 3) (ix x1) ((sI σ (a0 + 3) (ix x1)) - x2))) rfl rfl ⟨by decide, by decide⟩ ⟨rfl, rfl⟩ ⟨Nat.zero_le _, Nat.zero_le _⟩ (Nat.le_of_ble_eq_true rfl) (fun r6 _ => ?_)
  refine g_putI (raw := false) hX (dc_X8_payIntoChest 15 rfl) fl_X8_31 (by decide) ⟨rfl, rfl⟩ ⟨rfl, rfl⟩ (ha0.tf 0 rfl) ?_
  exact g_vret hX (dc_X8_payIntoChest 16 rfl) rfl (Nat.le_refl _) (Nat.le_refl _)
def f_X8_payIntoChest (a0 : Nat) (x1 : Int32) (x2 : Int32) (σ : MS) : Option (MS) := b_X8_payIntoChest_0 a0 x1 x2 σ
theorem con_X8_payIntoChest {Ω : OM} (hO : OKO Ω) (hΩ : oSH Ω = SHX) (a0 : Nat) (x1 : Int32) (x2 : Int32) (σ : MS) (ha0 : sRt Ω a0 shState) : Con Ω yX8_payIntoChest cX8_payIntoChest 3 none rm_X8_payIntoChest (emWV) [.ref a0, .int x1, .int x2] σ (f_X8_payIntoChest a0 x1 x2 σ) :=
  con_of hO (by decide +kernel) (Nat.le_of_ble_eq_true rfl) rfl (fun X hX _ => c_X8_payIntoChest_0 hX hO hΩ a0 ha0 x1 x2 σ )
def it_X1_sendClerk : List (Nat × Instr × Nat × Nat) := [(0, .iconst 0, 1, 1), (1, .istore_n 2, 1, 2), (2, .iload_n 2, 1, 3), (3, .aload_n 0, 1, 4), (4, .getfield 21, 3, 7), (7, .getfield 29, 3, 10), (10, .if_icmp .ge 50, 3, 13), (13, .aload_n 1, 1, 14), (14, .getfield 34, 3, 17), (17, .iload_n 2, 1, 18), (18, .iaload, 1, 19), (19, .istore_n 3, 1, 20), (20, .iload_n 3, 1, 21), (21, .iconst (-1), 1, 22), (22, .if_icmp .eq 32, 3, 25), (25, .aload_n 1, 1, 26), (26, .iload_n 2, 1, 27), (27, .invokevirtual 80, 3, 30), (30, .ifCond .eq 24, 3, 33), (33, .aload_n 1, 1, 34), (34, .iload_n 3, 1, 35), (35, .aload_n 0, 1, 36), (36, .getfield 21, 3, 39), (39, .getfield 84, 3, 42), (42, .aload_n 1, 1, 43), (43, .getfield 71, 3, 46), (46, .iload_n 3, 1, 47), (47, .iaload, 1, 48), (48, .invokestatic 74, 3, 51), (51, .invokevirtual 87, 3, 54), (54, .iinc 2 1, 3, 57), (57, .goto (-55), 3, 60), (60, .aload_n 1, 1, 61), (61, .iconst 0, 1, 62), (62, .putfield 91, 3, 65), (65, .return_, 1, 66)]
theorem id_X1_sendClerk : ∀ q ∈ it_X1_sendClerk, decode cX1_sendClerk q.1 = .ok (q.2.1, q.2.2.1) ∧ q.1 + q.2.2.1 = q.2.2.2 := by decide +kernel
theorem dc_X1_sendClerk {pc : Nat} {i : Instr} {n pc' : Nat} (j : Nat) (h : it_X1_sendClerk[j]? = some (pc, i, n, pc')) : Dc cX1_sendClerk pc i n pc' := dc_of id_X1_sendClerk j h
abbrev rm_X1_sendClerk : Room := { frames := 2, cells := 0, slots := 0, locals := 43 }
def b_X1_sendClerk_54 (a1 : Nat) (k2 : Int32 → MS → Option (MS))  (y2 : Int32) (σ : MS) : Option (MS) := (k2 ((y2 + (1 : Int32))) σ)
set_option maxHeartbeats 4000000 in
set_option maxRecDepth 20000 in
theorem c_X1_sendClerk_54 {X : CX} {Ω : OM} (hX : CF X Ω RX1 cX1_sendClerk 4 none rm_X1_sendClerk) (hO : OKO Ω) (hΩ : oSH Ω = SHX) (a1 : Nat) (ha1 : sRt Ω a1 shState) (k2 : Int32 → MS → Option (MS)) (hk2 : ∀ (y2 : Int32) (σ : MS) , GE X Ω 4 0 0 (emWV) 0 0 2 [(0, .ref 44), (1, .ref a1), (2, .int y2)] [] σ (k2 y2 σ))  (y2 : Int32) (σ : MS)  : GE X Ω 4 0 0 (emWV) 0 0 54 [(0, .ref 44), (1, .ref a1), (2, .int y2)] [] σ (b_X1_sendClerk_54 a1 k2 y2 σ) := by
  unfold b_X1_sendClerk_54
  refine g_iinc (w := (y2 + (1 : Int32))) (L' := [(2, .int (y2 + (1 : Int32))), (0, .ref 44), (1, .ref a1)]) hX (dc_X1_sendClerk 30 rfl) 2 rfl rfl (by decide) rfl ?_
  refine g_goto (tgt := 2) hX (dc_X1_sendClerk 31 rfl) (by decide) ?_
  exact g_sub [1, 2, 0] rfl (hk2 ((y2 + (1 : Int32))) σ )
def b_X1_sendClerk_2 (a1 : Nat)  : Nat → Int32 → MS → Option (MS)
  | 0, _, _ => none
  | n + 1, y2, σ => (if (sI σ 23 4) ≤ y2 then some ((wI σ a1 3 (0 : Int32))) else chk (inb y2 6) ((if (sI σ (a1 + 1) (ix y2)) = (-1 : Int32) then (b_X1_sendClerk_54 a1 (b_X1_sendClerk_2 a1 n) (y2) σ) else (f_X8_sneakedBit a1 y2 σ).bind (fun r12 => (if r12 = 0 then (b_X1_sendClerk_54 a1 (b_X1_sendClerk_2 a1 n) (y2) σ) else chk (inb (sI σ (a1 + 1) (ix y2)) 4) ((f_J9_min_7cf53 (sI σ 23 1) (sI σ (a1 + 3) (ix (sI σ (a1 + 1) (ix y2))))).bind (fun r15 => (f_X8_payIntoChest a1 (sI σ (a1 + 1) (ix y2)) r15 σ).bind (fun r16 => (b_X1_sendClerk_54 a1 (b_X1_sendClerk_2 a1 n) (y2) r16)))))))))
set_option maxHeartbeats 4000000 in
set_option maxRecDepth 20000 in
theorem c_X1_sendClerk_2 {X : CX} {Ω : OM} (hX : CF X Ω RX1 cX1_sendClerk 4 none rm_X1_sendClerk) (hO : OKO Ω) (hΩ : oSH Ω = SHX) (a1 : Nat) (ha1 : sRt Ω a1 shState)  : ∀ (n : Nat) (y2 : Int32) (σ : MS) , GE X Ω 4 0 0 (emWV) 0 0 2 [(0, .ref 44), (1, .ref a1), (2, .int y2)] [] σ (b_X1_sendClerk_2 a1 n y2 σ)
  | 0, _, _ => g_none
  | n + 1, y2, σ => by
    have hk2 := c_X1_sendClerk_2 hX hO hΩ a1 ha1 n
    unfold b_X1_sendClerk_2
    refine g_iload_n hX (dc_X1_sendClerk 2 rfl) rfl 2 rfl ?_
    refine g_aload_n hX (dc_X1_sendClerk 3 rfl) rfl 0 rfl ?_
    refine g_getF (q := 23) hX (dc_X1_sendClerk 4 rfl) fl_X1_21 (by decide) rfl (stS hΩ 44 rfl) rfl ?_
    refine g_getI hX (dc_X1_sendClerk 5 rfl) fl_X1_29 (by decide) rfl (stS hΩ 23 rfl) ?_
    refine g_icmp_ge (tgt := 60) hX (dc_X1_sendClerk 6 rfl) (by decide) (fun h9 => ?_) (fun h9 => ?_)
    · refine g_aload_n hX (dc_X1_sendClerk 32 rfl) rfl 1 rfl ?_
      refine g_iconst (w := (0 : Int32)) hX (dc_X1_sendClerk 33 rfl) (by decide) ?_
      refine g_putI (raw := false) hX (dc_X1_sendClerk 34 rfl) fl_X1_91 (by decide) ⟨rfl, rfl⟩ ⟨rfl, rfl⟩ (ha1.tf 0 rfl) ?_
      exact g_vret hX (dc_X1_sendClerk 35 rfl) rfl (Nat.le_refl _) (Nat.le_refl _)
    · refine g_aload_n hX (dc_X1_sendClerk 7 rfl) rfl 1 rfl ?_
      refine g_getF (q := (a1 + 1)) hX (dc_X1_sendClerk 8 rfl) fl_X1_34 (by decide) rfl (ha1.tf 0 rfl) rfl ?_
      refine g_iload_n hX (dc_X1_sendClerk 9 rfl) rfl 2 rfl ?_
      refine g_chk (fun hc10 => ?_)
      refine g_iald hX (dc_X1_sendClerk 10 rfl) (ha1.tf 1 rfl) hc10 rfl ?_
      refine g_istore_n (L' := [(3, .int (sI σ (a1 + 1) (ix y2))), (0, .ref 44), (1, .ref a1), (2, .int y2)]) hX (dc_X1_sendClerk 11 rfl) rfl (by decide) rfl ?_
      refine g_iload_n hX (dc_X1_sendClerk 12 rfl) rfl 0 rfl ?_
      refine g_iconst (w := (-1 : Int32)) hX (dc_X1_sendClerk 13 rfl) (by decide) ?_
      refine g_icmp_eq (tgt := 54) hX (dc_X1_sendClerk 14 rfl) (by decide) (fun h11 => ?_) (fun h11 => ?_)
      · exact g_sub [1, 2, 3] rfl (c_X1_sendClerk_54 hX hO hΩ a1 ha1 _ hk2 (y2) σ)
      · refine g_aload_n hX (dc_X1_sendClerk 15 rfl) rfl 2 rfl ?_
        refine g_iload_n hX (dc_X1_sendClerk 16 rfl) rfl 3 rfl ?_
        refine gV_PI (As := [.int y2]) (st := []) hX (dc_X1_sendClerk 17 rfl) ml_X1_80 (con_X8_sneakedBit hO hΩ a1 y2 σ ha1) (ha1.tf 0 rfl) rfl rfl ⟨by decide, by decide⟩ ⟨rfl, rfl⟩ ⟨Nat.zero_le _, Nat.zero_le _⟩ (Nat.le_of_ble_eq_true rfl) (fun r12 _ => ?_)
        refine g_if_eq (tgt := 54) hX (dc_X1_sendClerk 18 rfl) (by decide) (fun h13 => ?_) (fun h13 => ?_)
        · exact g_sub [1, 2, 3] rfl (c_X1_sendClerk_54 hX hO hΩ a1 ha1 _ hk2 (y2) σ)
        · refine g_aload_n hX (dc_X1_sendClerk 19 rfl) rfl 2 rfl ?_
          refine g_iload_n hX (dc_X1_sendClerk 20 rfl) rfl 0 rfl ?_
          refine g_aload_n hX (dc_X1_sendClerk 21 rfl) rfl 1 rfl ?_
          refine g_getF (q := 23) hX (dc_X1_sendClerk 22 rfl) fl_X1_21 (by decide) rfl (stS hΩ 44 rfl) rfl ?_
          refine g_getI hX (dc_X1_sendClerk 23 rfl) fl_X1_84 (by decide) rfl (stS hΩ 23 rfl) ?_
          refine g_aload_n hX (dc_X1_sendClerk 24 rfl) rfl 2 rfl ?_
          refine g_getF (q := (a1 + 3)) hX (dc_X1_sendClerk 25 rfl) fl_X1_71 (by decide) rfl (ha1.tf 0 rfl) rfl ?_
          refine g_iload_n hX (dc_X1_sendClerk 26 rfl) rfl 0 rfl ?_
          refine g_chk (fun hc14 => ?_)
          refine g_iald hX (dc_X1_sendClerk 27 rfl) (ha1.tf 3 rfl) hc14 rfl ?_
          refine gS_PI (As := [.int (sI σ 23 1), .int (sI σ (a1 + 3) (ix (sI σ (a1 + 1) (ix y2))))]) (st := [.int (sI σ (a1 + 1) (ix y2)), .ref a1]) hX (dc_X1_sendClerk 28 rfl) ml_X1_74 (con_J9_min_7cf53 hO hΩ (sI σ 23 1) (sI σ (a1 + 3) (ix (sI σ (a1 + 1) (ix y2)))) σ) rfl rfl ⟨by decide, by decide⟩ ⟨rfl, rfl⟩ ⟨Nat.zero_le _, Nat.zero_le _⟩ (Nat.le_of_ble_eq_true rfl) (fun r15 _ => ?_)
          refine gV_WV (As := [.int (sI σ (a1 + 1) (ix y2)), .int r15]) (st := []) hX (dc_X1_sendClerk 29 rfl) ml_X1_87 (con_X8_payIntoChest hO hΩ a1 (sI σ (a1 + 1) (ix y2)) r15 σ ha1) (ha1.tf 0 rfl) rfl rfl ⟨by decide, by decide⟩ ⟨rfl, rfl⟩ ⟨Nat.zero_le _, Nat.zero_le _⟩ (Nat.le_of_ble_eq_true rfl) (fun r16 _ => ?_)
          exact g_sub [1, 2, 3] rfl (c_X1_sendClerk_54 hX hO hΩ a1 ha1 _ hk2 (y2) r16)
def b_X1_sendClerk_0 (a1 : Nat)    (σ : MS) : Option (MS) := (b_X1_sendClerk_2 a1 FU ((0 : Int32)) σ)
set_option maxHeartbeats 4000000 in
set_option maxRecDepth 20000 in
theorem c_X1_sendClerk_0 {X : CX} {Ω : OM} (hX : CF X Ω RX1 cX1_sendClerk 4 none rm_X1_sendClerk) (hO : OKO Ω) (hΩ : oSH Ω = SHX) (a1 : Nat) (ha1 : sRt Ω a1 shState)    (σ : MS)  : GE X Ω 4 0 0 (emWV) 0 0 0 [(0, .ref 44), (1, .ref a1)] [] σ (b_X1_sendClerk_0 a1 σ) := by
  unfold b_X1_sendClerk_0
  refine g_iconst (w := (0 : Int32)) hX (dc_X1_sendClerk 0 rfl) (by decide) ?_
  refine g_istore_n (L' := [(2, .int (0 : Int32)), (0, .ref 44), (1, .ref a1)]) hX (dc_X1_sendClerk 1 rfl) rfl (by decide) rfl ?_
  exact g_sub [1, 2, 0] rfl (c_X1_sendClerk_2 hX hO hΩ a1 ha1 FU ((0 : Int32)) σ)
def f_X1_sendClerk (a1 : Nat) (σ : MS) : Option (MS) := b_X1_sendClerk_0 a1  σ
theorem con_X1_sendClerk {Ω : OM} (hO : OKO Ω) (hΩ : oSH Ω = SHX) (a1 : Nat) (σ : MS) (ha1 : sRt Ω a1 shState) : Con Ω yX1_sendClerk cX1_sendClerk 4 none rm_X1_sendClerk (emWV) [.ref 44, .ref a1] σ (f_X1_sendClerk a1 σ) :=
  con_of hO (by decide +kernel) (Nat.le_of_ble_eq_true rfl) rfl (fun X hX _ => c_X1_sendClerk_0 hX hO hΩ a1 ha1  σ )
def it_X1_passHour : List (Nat × Instr × Nat × Nat) := [(0, .iconst 0, 1, 1), (1, .istore_n 2, 1, 2), (2, .iconst 0, 1, 3), (3, .istore_n 3, 1, 4), (4, .iload_n 3, 1, 5), (5, .aload_n 0, 1, 6), (6, .getfield 21, 3, 9), (9, .getfield 29, 3, 12), (12, .if_icmp .ge 85, 3, 15), (15, .aload_n 1, 1, 16), (16, .getfield 34, 3, 19), (19, .iload_n 3, 1, 20), (20, .iaload, 1, 21), (21, .istore 4, 2, 23), (23, .iload 4, 2, 25), (25, .iconst (-1), 1, 26), (26, .if_icmp .eq 65, 3, 29), (29, .aload_n 0, 1, 30), (30, .getfield 21, 3, 33), (33, .iload 4, 2, 35), (35, .aload_n 1, 1, 36), (36, .getfield 40, 3, 39), (39, .invokevirtual 43, 3, 42), (42, .ifCond .eq 49, 3, 45), (45, .aload_n 0, 1, 46), (46, .aload_n 1, 1, 47), (47, .iload_n 3, 1, 48), (48, .invokevirtual 47, 3, 51), (51, .istore 5, 2, 53), (53, .iload 5, 2, 55), (55, .iconst (-1), 1, 56), (56, .if_icmp .ne 27, 3, 59), (59, .aload_n 1, 1, 60), (60, .iload_n 3, 1, 61), (61, .invokevirtual 51, 3, 64), (64, .aload_n 1, 1, 65), (65, .getfield 55, 3, 68), (68, .iload_n 3, 1, 69), (69, .dup2, 1, 70), (70, .iaload, 1, 71), (71, .iconst 1, 1, 72), (72, .iadd, 1, 73), (73, .iastore, 1, 74), (74, .iload_n 2, 1, 75), (75, .iconst 1, 1, 76), (76, .iload_n 3, 1, 77), (77, .ishl, 1, 78), (78, .ior, 1, 79), (79, .istore_n 2, 1, 80), (80, .goto 11, 3, 83), (83, .aload_n 1, 1, 84), (84, .getfield 34, 3, 87), (87, .iload_n 3, 1, 88), (88, .iload 5, 2, 90), (90, .iastore, 1, 91), (91, .iinc 3 1, 3, 94), (94, .goto (-90), 3, 97), (97, .aload_n 0, 1, 98), (98, .aload_n 1, 1, 99), (99, .invokevirtual 58, 3, 102), (102, .aload_n 1, 1, 103), (103, .getfield 40, 3, 106), (106, .bipush 24, 2, 108), (108, .irem, 1, 109), (109, .ifCond .ne 8, 3, 112), (112, .aload_n 0, 1, 113), (113, .aload_n 1, 1, 114), (114, .invokevirtual 62, 3, 117), (117, .aload_n 1, 1, 118), (118, .dup, 1, 119), (119, .getfield 40, 3, 122), (122, .iconst 1, 1, 123), (123, .iadd, 1, 124), (124, .putfield 40, 3, 127), (127, .iload_n 2, 1, 128), (128, .ireturn, 1, 129)]
theorem id_X1_passHour : ∀ q ∈ it_X1_passHour, decode cX1_passHour q.1 = .ok (q.2.1, q.2.2.1) ∧ q.1 + q.2.2.1 = q.2.2.2 := by decide +kernel
theorem dc_X1_passHour {pc : Nat} {i : Instr} {n pc' : Nat} (j : Nat) (h : it_X1_passHour[j]? = some (pc, i, n, pc')) : Dc cX1_passHour pc i n pc' := dc_of id_X1_passHour j h
abbrev rm_X1_passHour : Room := { frames := 5, cells := 0, slots := 0, locals := 123 }
def b_X1_passHour_117 (a1 : Nat)   (y2 : Int32) (σ : MS) : Option (Int32 × MS) := some (y2, (wI σ a1 5 ((sI σ a1 5) + (1 : Int32))))
set_option maxHeartbeats 4000000 in
set_option maxRecDepth 20000 in
theorem c_X1_passHour_117 {X : CX} {Ω : OM} (hX : CF X Ω RX1 cX1_passHour 6 (some .int) rm_X1_passHour) (hO : OKO Ω) (hΩ : oSH Ω = SHX) (a1 : Nat) (ha1 : sRt Ω a1 shState)   (y2 : Int32) (σ : MS)  : GE X Ω 6 0 0 (emWI) 0 0 117 [(1, .ref a1), (2, .int y2)] [] σ (b_X1_passHour_117 a1 y2 σ) := by
  unfold b_X1_passHour_117
  refine g_aload_n hX (dc_X1_passHour 68 rfl) rfl 0 rfl ?_
  refine g_dup hX (dc_X1_passHour 69 rfl) rfl ?_
  refine g_getI hX (dc_X1_passHour 70 rfl) fl_X1_40 (by decide) rfl (ha1.tf 0 rfl) ?_
  refine g_iconst (w := (1 : Int32)) hX (dc_X1_passHour 71 rfl) (by decide) ?_
  refine g_iadd hX (dc_X1_passHour 72 rfl) ?_
  refine g_putI (raw := false) hX (dc_X1_passHour 73 rfl) fl_X1_40 (by decide) ⟨rfl, rfl⟩ ⟨rfl, rfl⟩ (ha1.tf 0 rfl) ?_
  refine g_iload_n hX (dc_X1_passHour 74 rfl) rfl 1 rfl ?_
  exact g_iret hX (dc_X1_passHour 75 rfl) rfl rfl (Nat.le_refl _) (Nat.le_refl _)
def b_X1_passHour_91 (a1 : Nat) (k4 : Int32 → Int32 → MS → Option (Int32 × MS))  (y2 : Int32) (y3 : Int32) (σ : MS) : Option (Int32 × MS) := (k4 (y2) ((y3 + (1 : Int32))) σ)
set_option maxHeartbeats 4000000 in
set_option maxRecDepth 20000 in
theorem c_X1_passHour_91 {X : CX} {Ω : OM} (hX : CF X Ω RX1 cX1_passHour 6 (some .int) rm_X1_passHour) (hO : OKO Ω) (hΩ : oSH Ω = SHX) (a1 : Nat) (ha1 : sRt Ω a1 shState) (k4 : Int32 → Int32 → MS → Option (Int32 × MS)) (hk4 : ∀ (y2 : Int32) (y3 : Int32) (σ : MS) , GE X Ω 6 0 0 (emWI) 0 0 4 [(0, .ref 44), (1, .ref a1), (2, .int y2), (3, .int y3)] [] σ (k4 y2 y3 σ))  (y2 : Int32) (y3 : Int32) (σ : MS)  : GE X Ω 6 0 0 (emWI) 0 0 91 [(0, .ref 44), (1, .ref a1), (2, .int y2), (3, .int y3)] [] σ (b_X1_passHour_91 a1 k4 y2 y3 σ) := by
  unfold b_X1_passHour_91
  refine g_iinc (w := (y3 + (1 : Int32))) (L' := [(3, .int (y3 + (1 : Int32))), (0, .ref 44), (1, .ref a1), (2, .int y2)]) hX (dc_X1_passHour 55 rfl) 3 rfl rfl (by decide) rfl ?_
  refine g_goto (tgt := 4) hX (dc_X1_passHour 56 rfl) (by decide) ?_
  exact g_sub [1, 2, 3, 0] rfl (hk4 (y2) ((y3 + (1 : Int32))) σ )
def b_X1_passHour_4 (a1 : Nat)  : Nat → Int32 → Int32 → MS → Option (Int32 × MS)
  | 0, _, _, _ => none
  | n + 1, y2, y3, σ => (if (sI σ 23 4) ≤ y3 then (f_X1_payHolders a1 σ).bind (fun r16 => (if ((sI r16 a1 5) - (sI r16 a1 5) / (24 : Int32) * (24 : Int32)) = 0 then (f_X1_sendClerk a1 r16).bind (fun r18 => (b_X1_passHour_117 a1 (y2) r18)) else (b_X1_passHour_117 a1 (y2) r16))) else chk (inb y3 6) ((if (sI σ (a1 + 1) (ix y3)) = (-1 : Int32) then (b_X1_passHour_91 a1 (b_X1_passHour_4 a1 n) (y2) (y3) σ) else (f_X3_isAsleep (sI σ (a1 + 1) (ix y3)) (sI σ a1 5) σ).bind (fun r21 => (if r21 = 0 then (b_X1_passHour_91 a1 (b_X1_passHour_4 a1 n) (y2) (y3) σ) else (f_X1_heirOf a1 y3 σ).bind (fun r23 => (if r23.1 = (-1 : Int32) then (f_X8_lay a1 y3 r23.2).bind (fun r25 => chk (inb y3 6) (chk (inb y3 6) ((b_X1_passHour_91 a1 (b_X1_passHour_4 a1 n) ((y2 ||| ((1 : Int32) <<< (y3 &&& 31)))) (y3) (wI r25 (a1 + 2) (ix y3) ((sI r25 (a1 + 2) (ix y3)) + (1 : Int32))))))) else chk (inb y3 6) ((b_X1_passHour_91 a1 (b_X1_passHour_4 a1 n) (y2) (y3) (wI r23.2 (a1 + 1) (ix y3) r23.1))))))))))
set_option maxHeartbeats 4000000 in
set_option maxRecDepth 20000 in
theorem c_X1_passHour_4 {X : CX} {Ω : OM} (hX : CF X Ω RX1 cX1_passHour 6 (some .int) rm_X1_passHour) (hO : OKO Ω) (hΩ : oSH Ω = SHX) (a1 : Nat) (ha1 : sRt Ω a1 shState)  : ∀ (n : Nat) (y2 : Int32) (y3 : Int32) (σ : MS) , GE X Ω 6 0 0 (emWI) 0 0 4 [(0, .ref 44), (1, .ref a1), (2, .int y2), (3, .int y3)] [] σ (b_X1_passHour_4 a1 n y2 y3 σ)
  | 0, _, _, _ => g_none
  | n + 1, y2, y3, σ => by
    have hk4 := c_X1_passHour_4 hX hO hΩ a1 ha1 n
    unfold b_X1_passHour_4
    refine g_iload_n hX (dc_X1_passHour 4 rfl) rfl 3 rfl ?_
    refine g_aload_n hX (dc_X1_passHour 5 rfl) rfl 0 rfl ?_
    refine g_getF (q := 23) hX (dc_X1_passHour 6 rfl) fl_X1_21 (by decide) rfl (stS hΩ 44 rfl) rfl ?_
    refine g_getI hX (dc_X1_passHour 7 rfl) fl_X1_29 (by decide) rfl (stS hΩ 23 rfl) ?_
    refine g_icmp_ge (tgt := 97) hX (dc_X1_passHour 8 rfl) (by decide) (fun h15 => ?_) (fun h15 => ?_)
    · refine g_aload_n hX (dc_X1_passHour 57 rfl) rfl 0 rfl ?_
      refine g_aload_n hX (dc_X1_passHour 58 rfl) rfl 1 rfl ?_
      refine gV_WV (As := [.ref a1]) (st := []) hX (dc_X1_passHour 59 rfl) ml_X1_58 (con_X1_payHolders hO hΩ a1 σ ha1) (stS hΩ 44 rfl) rfl rfl ⟨by decide, by decide⟩ ⟨rfl, rfl⟩ ⟨Nat.zero_le _, Nat.zero_le _⟩ (Nat.le_of_ble_eq_true rfl) (fun r16 _ => ?_)
      refine g_aload_n hX (dc_X1_passHour 60 rfl) rfl 1 rfl ?_
      refine g_getI hX (dc_X1_passHour 61 rfl) fl_X1_40 (by decide) rfl (ha1.tf 0 rfl) ?_
      refine g_bipush (w := (24 : Int32)) hX (dc_X1_passHour 62 rfl) (by decide) ?_
      refine g_irem hX (dc_X1_passHour 63 rfl) (by decide) ?_
      refine g_if_ne (tgt := 117) hX (dc_X1_passHour 64 rfl) (by decide) (fun h17 => ?_) (fun h17 => ?_)
      · refine g_aload_n hX (dc_X1_passHour 65 rfl) rfl 0 rfl ?_
        refine g_aload_n hX (dc_X1_passHour 66 rfl) rfl 1 rfl ?_
        refine gV_WV (As := [.ref a1]) (st := []) hX (dc_X1_passHour 67 rfl) ml_X1_62 (con_X1_sendClerk hO hΩ a1 r16 ha1) (stS hΩ 44 rfl) rfl rfl ⟨by decide, by decide⟩ ⟨rfl, rfl⟩ ⟨Nat.zero_le _, Nat.zero_le _⟩ (Nat.le_of_ble_eq_true rfl) (fun r18 _ => ?_)
        exact g_sub [1, 2] rfl (c_X1_passHour_117 hX hO hΩ a1 ha1 (y2) r18)
      · exact g_sub [1, 2] rfl (c_X1_passHour_117 hX hO hΩ a1 ha1 (y2) r16)
    · refine g_aload_n hX (dc_X1_passHour 9 rfl) rfl 1 rfl ?_
      refine g_getF (q := (a1 + 1)) hX (dc_X1_passHour 10 rfl) fl_X1_34 (by decide) rfl (ha1.tf 0 rfl) rfl ?_
      refine g_iload_n hX (dc_X1_passHour 11 rfl) rfl 3 rfl ?_
      refine g_chk (fun hc19 => ?_)
      refine g_iald hX (dc_X1_passHour 12 rfl) (ha1.tf 1 rfl) hc19 rfl ?_
      refine g_istore (L' := [(4, .int (sI σ (a1 + 1) (ix y3))), (0, .ref 44), (1, .ref a1), (2, .int y2), (3, .int y3)]) hX (dc_X1_passHour 13 rfl) (by decide) rfl ?_
      refine g_iload hX (dc_X1_passHour 14 rfl) 0 rfl ?_
      refine g_iconst (w := (-1 : Int32)) hX (dc_X1_passHour 15 rfl) (by decide) ?_
      refine g_icmp_eq (tgt := 91) hX (dc_X1_passHour 16 rfl) (by decide) (fun h20 => ?_) (fun h20 => ?_)
      · exact g_sub [1, 2, 3, 4] rfl (c_X1_passHour_91 hX hO hΩ a1 ha1 _ hk4 (y2) (y3) σ)
      · refine g_aload_n hX (dc_X1_passHour 17 rfl) rfl 1 rfl ?_
        refine g_getF (q := 23) hX (dc_X1_passHour 18 rfl) fl_X1_21 (by decide) rfl (stS hΩ 44 rfl) rfl ?_
        refine g_iload hX (dc_X1_passHour 19 rfl) 0 rfl ?_
        refine g_aload_n hX (dc_X1_passHour 20 rfl) rfl 2 rfl ?_
        refine g_getI hX (dc_X1_passHour 21 rfl) fl_X1_40 (by decide) rfl (ha1.tf 0 rfl) ?_
        refine gV_PI (As := [.int (sI σ (a1 + 1) (ix y3)), .int (sI σ a1 5)]) (st := []) hX (dc_X1_passHour 22 rfl) ml_X1_43 (con_X3_isAsleep hO hΩ (sI σ (a1 + 1) (ix y3)) (sI σ a1 5) σ) (stS hΩ 23 rfl) rfl rfl ⟨by decide, by decide⟩ ⟨rfl, rfl⟩ ⟨Nat.zero_le _, Nat.zero_le _⟩ (Nat.le_of_ble_eq_true rfl) (fun r21 _ => ?_)
        refine g_if_eq (tgt := 91) hX (dc_X1_passHour 23 rfl) (by decide) (fun h22 => ?_) (fun h22 => ?_)
        · exact g_sub [1, 2, 3, 4] rfl (c_X1_passHour_91 hX hO hΩ a1 ha1 _ hk4 (y2) (y3) σ)
        · refine g_aload_n hX (dc_X1_passHour 24 rfl) rfl 1 rfl ?_
          refine g_aload_n hX (dc_X1_passHour 25 rfl) rfl 2 rfl ?_
          refine g_iload_n hX (dc_X1_passHour 26 rfl) rfl 4 rfl ?_
          refine gV_WI (As := [.ref a1, .int y3]) (st := []) hX (dc_X1_passHour 27 rfl) ml_X1_47 (con_X1_heirOf hO hΩ a1 y3 σ ha1) (stS hΩ 44 rfl) rfl rfl ⟨by decide, by decide⟩ ⟨rfl, rfl⟩ ⟨Nat.zero_le _, Nat.zero_le _⟩ (Nat.le_of_ble_eq_true rfl) (fun r23 _ => ?_)
          refine g_istore (L' := [(5, .int r23.1), (4, .int (sI σ (a1 + 1) (ix y3))), (0, .ref 44), (1, .ref a1), (2, .int y2), (3, .int y3)]) hX (dc_X1_passHour 28 rfl) (by decide) rfl ?_
          refine g_iload hX (dc_X1_passHour 29 rfl) 0 rfl ?_
          refine g_iconst (w := (-1 : Int32)) hX (dc_X1_passHour 30 rfl) (by decide) ?_
          refine g_icmp_ne (tgt := 83) hX (dc_X1_passHour 31 rfl) (by decide) (fun h24 => ?_) (fun h24 => ?_)
          · refine g_aload_n hX (dc_X1_passHour 32 rfl) rfl 3 rfl ?_
            refine g_iload_n hX (dc_X1_passHour 33 rfl) rfl 5 rfl ?_
            refine gV_WV (As := [.int y3]) (st := []) hX (dc_X1_passHour 34 rfl) ml_X1_51 (con_X8_lay hO hΩ a1 y3 r23.2 ha1) (ha1.tf 0 rfl) rfl rfl ⟨by decide, by decide⟩ ⟨rfl, rfl⟩ ⟨Nat.zero_le _, Nat.zero_le _⟩ (Nat.le_of_ble_eq_true rfl) (fun r25 _ => ?_)
            refine g_aload_n hX (dc_X1_passHour 35 rfl) rfl 3 rfl ?_
            refine g_getF (q := (a1 + 2)) hX (dc_X1_passHour 36 rfl) fl_X1_55 (by decide) rfl (ha1.tf 0 rfl) rfl ?_
            refine g_iload_n hX (dc_X1_passHour 37 rfl) rfl 5 rfl ?_
            refine g_dup2 hX (dc_X1_passHour 38 rfl) rfl rfl ?_
            refine g_chk (fun hc26 => ?_)
            refine g_iald hX (dc_X1_passHour 39 rfl) (ha1.tf 2 rfl) hc26 rfl ?_
            refine g_iconst (w := (1 : Int32)) hX (dc_X1_passHour 40 rfl) (by decide) ?_
            refine g_iadd hX (dc_X1_passHour 41 rfl) ?_
            refine g_chk (fun hc27 => ?_)
            refine g_iast hX (dc_X1_passHour 42 rfl) (ha1.tf 2 rfl) hc27 rfl ?_
            refine g_iload_n hX (dc_X1_passHour 43 rfl) rfl 4 rfl ?_
            refine g_iconst (w := (1 : Int32)) hX (dc_X1_passHour 44 rfl) (by decide) ?_
            refine g_iload_n hX (dc_X1_passHour 45 rfl) rfl 5 rfl ?_
            refine g_ishl hX (dc_X1_passHour 46 rfl) ?_
            refine g_ior hX (dc_X1_passHour 47 rfl) ?_
            refine g_istore_n (L' := [(2, .int (y2 ||| ((1 : Int32) <<< (y3 &&& 31)))), (5, .int r23.1), (4, .int (sI σ (a1 + 1) (ix y3))), (0, .ref 44), (1, .ref a1), (3, .int y3)]) hX (dc_X1_passHour 48 rfl) rfl (by decide) rfl ?_
            refine g_goto (tgt := 91) hX (dc_X1_passHour 49 rfl) (by decide) ?_
            exact g_sub [3, 4, 0, 5] rfl (c_X1_passHour_91 hX hO hΩ a1 ha1 _ hk4 ((y2 ||| ((1 : Int32) <<< (y3 &&& 31)))) (y3) (wI r25 (a1 + 2) (ix y3) ((sI r25 (a1 + 2) (ix y3)) + (1 : Int32))))
          · refine g_aload_n hX (dc_X1_passHour 50 rfl) rfl 3 rfl ?_
            refine g_getF (q := (a1 + 1)) hX (dc_X1_passHour 51 rfl) fl_X1_34 (by decide) rfl (ha1.tf 0 rfl) rfl ?_
            refine g_iload_n hX (dc_X1_passHour 52 rfl) rfl 5 rfl ?_
            refine g_iload hX (dc_X1_passHour 53 rfl) 0 rfl ?_
            refine g_chk (fun hc28 => ?_)
            refine g_iast hX (dc_X1_passHour 54 rfl) (ha1.tf 1 rfl) hc28 rfl ?_
            exact g_sub [2, 3, 4, 5] rfl (c_X1_passHour_91 hX hO hΩ a1 ha1 _ hk4 (y2) (y3) (wI r23.2 (a1 + 1) (ix y3) r23.1))
def b_X1_passHour_0 (a1 : Nat)    (σ : MS) : Option (Int32 × MS) := (b_X1_passHour_4 a1 FU ((0 : Int32)) ((0 : Int32)) σ)
set_option maxHeartbeats 4000000 in
set_option maxRecDepth 20000 in
theorem c_X1_passHour_0 {X : CX} {Ω : OM} (hX : CF X Ω RX1 cX1_passHour 6 (some .int) rm_X1_passHour) (hO : OKO Ω) (hΩ : oSH Ω = SHX) (a1 : Nat) (ha1 : sRt Ω a1 shState)    (σ : MS)  : GE X Ω 6 0 0 (emWI) 0 0 0 [(0, .ref 44), (1, .ref a1)] [] σ (b_X1_passHour_0 a1 σ) := by
  unfold b_X1_passHour_0
  refine g_iconst (w := (0 : Int32)) hX (dc_X1_passHour 0 rfl) (by decide) ?_
  refine g_istore_n (L' := [(2, .int (0 : Int32)), (0, .ref 44), (1, .ref a1)]) hX (dc_X1_passHour 1 rfl) rfl (by decide) rfl ?_
  refine g_iconst (w := (0 : Int32)) hX (dc_X1_passHour 2 rfl) (by decide) ?_
  refine g_istore_n (L' := [(3, .int (0 : Int32)), (2, .int (0 : Int32)), (0, .ref 44), (1, .ref a1)]) hX (dc_X1_passHour 3 rfl) rfl (by decide) rfl ?_
  exact g_sub [2, 3, 1, 0] rfl (c_X1_passHour_4 hX hO hΩ a1 ha1 FU ((0 : Int32)) ((0 : Int32)) σ)
def f_X1_passHour (a1 : Nat) (σ : MS) : Option (Int32 × MS) := b_X1_passHour_0 a1  σ
theorem con_X1_passHour {Ω : OM} (hO : OKO Ω) (hΩ : oSH Ω = SHX) (a1 : Nat) (σ : MS) (ha1 : sRt Ω a1 shState) : Con Ω yX1_passHour cX1_passHour 6 (some .int) rm_X1_passHour (emWI) [.ref 44, .ref a1] σ (f_X1_passHour a1 σ) :=
  con_of hO (by decide +kernel) (Nat.le_of_ble_eq_true rfl) rfl (fun X hX _ => c_X1_passHour_0 hX hO hΩ a1 ha1  σ )
def it_J7_fill_53178 : List (Nat × Instr × Nat × Nat) := [(0, .iconst 0, 1, 1), (1, .istore_n 2, 1, 2), (2, .aload_n 0, 1, 3), (3, .arraylength, 1, 4), (4, .istore_n 3, 1, 5), (5, .iload_n 2, 1, 6), (6, .iload_n 3, 1, 7), (7, .if_icmp .ge 13, 3, 10), (10, .aload_n 0, 1, 11), (11, .iload_n 2, 1, 12), (12, .iload_n 1, 1, 13), (13, .iastore, 1, 14), (14, .iinc 2 1, 3, 17), (17, .goto (-12), 3, 20), (20, .return_, 1, 21)]
theorem id_J7_fill_53178 : ∀ q ∈ it_J7_fill_53178, decode cJ7_fill_53178 q.1 = .ok (q.2.1, q.2.2.1) ∧ q.1 + q.2.2.1 = q.2.2.2 := by decide +kernel
theorem dc_J7_fill_53178 {pc : Nat} {i : Instr} {n pc' : Nat} (j : Nat) (h : it_J7_fill_53178[j]? = some (pc, i, n, pc')) : Dc cJ7_fill_53178 pc i n pc' := dc_of id_J7_fill_53178 j h
abbrev rm_J7_fill_53178 : Room := { frames := 0, cells := 0, slots := 0, locals := 0 }
def b_J7_fill_53178_5 (a0 : Nat) (n0 : Nat)  : Nat → Int32 → Int32 → Int32 → MS → Option (MS)
  | 0, _, _, _, _ => none
  | n + 1, y1, y2, y3, σ => (if y3 ≤ y2 then some (σ) else chk (inb y2 n0) (((b_J7_fill_53178_5 a0 n0 n) (y1) ((y2 + (1 : Int32))) (y3) (wI σ a0 (ix y2) y1))))
set_option maxHeartbeats 4000000 in
set_option maxRecDepth 20000 in
theorem c_J7_fill_53178_5 {X : CX} {Ω : OM} (hX : CF X Ω RJ7 cJ7_fill_53178 4 none rm_J7_fill_53178) (hO : OKO Ω) (a0 : Nat) (n0 : Nat)   : ∀ (n : Nat) (y1 : Int32) (y2 : Int32) (y3 : Int32) (σ : MS) (ha0 : tf Ω σ a0 (0, n0)), GE X Ω 4 0 0 (emWV) 0 0 5 [(0, .ref a0), (1, .int y1), (2, .int y2), (3, .int y3)] [] σ (b_J7_fill_53178_5 a0 n0 n y1 y2 y3 σ)
  | 0, _, _, _, _, _ => g_none
  | n + 1, y1, y2, y3, σ, ha0 => by
    have hk5 := c_J7_fill_53178_5 hX hO a0 n0 n
    unfold b_J7_fill_53178_5
    refine g_iload_n hX (dc_J7_fill_53178 5 rfl) rfl 2 rfl ?_
    refine g_iload_n hX (dc_J7_fill_53178 6 rfl) rfl 3 rfl ?_
    refine g_icmp_ge (tgt := 20) hX (dc_J7_fill_53178 7 rfl) (by decide) (fun h3 => ?_) (fun h3 => ?_)
    · exact g_vret hX (dc_J7_fill_53178 14 rfl) rfl (Nat.le_refl _) (Nat.le_refl _)
    · refine g_aload_n hX (dc_J7_fill_53178 8 rfl) rfl 0 rfl ?_
      refine g_iload_n hX (dc_J7_fill_53178 9 rfl) rfl 2 rfl ?_
      refine g_iload_n hX (dc_J7_fill_53178 10 rfl) rfl 1 rfl ?_
      refine g_chk (fun hc4 => ?_)
      refine g_iast hX (dc_J7_fill_53178 11 rfl) ha0 hc4 rfl ?_
      refine g_iinc (w := (y2 + (1 : Int32))) (L' := [(2, .int (y2 + (1 : Int32))), (0, .ref a0), (1, .int y1), (3, .int y3)]) hX (dc_J7_fill_53178 12 rfl) 2 rfl rfl (by decide) rfl ?_
      refine g_goto (tgt := 5) hX (dc_J7_fill_53178 13 rfl) (by decide) ?_
      exact g_sub [1, 2, 0, 3] rfl (hk5 (y1) ((y2 + (1 : Int32))) (y3) (wI σ a0 (ix y2) y1) ha0)
def b_J7_fill_53178_0 (a0 : Nat) (n0 : Nat)  (x1 : Int32)  (σ : MS) : Option (MS) := (b_J7_fill_53178_5 a0 n0 FU (x1) ((0 : Int32)) ((Int32.ofNat n0)) σ)
set_option maxHeartbeats 4000000 in
set_option maxRecDepth 20000 in
theorem c_J7_fill_53178_0 {X : CX} {Ω : OM} (hX : CF X Ω RJ7 cJ7_fill_53178 4 none rm_J7_fill_53178) (hO : OKO Ω) (a0 : Nat) (n0 : Nat)   (x1 : Int32)  (σ : MS) (ha0 : tf Ω σ a0 (0, n0)) : GE X Ω 4 0 0 (emWV) 0 0 0 [(0, .ref a0), (1, .int x1)] [] σ (b_J7_fill_53178_0 a0 n0 x1 σ) := by
  unfold b_J7_fill_53178_0
  refine g_iconst (w := (0 : Int32)) hX (dc_J7_fill_53178 0 rfl) (by decide) ?_
  refine g_istore_n (L' := [(2, .int (0 : Int32)), (0, .ref a0), (1, .int x1)]) hX (dc_J7_fill_53178 1 rfl) rfl (by decide) rfl ?_
  refine g_aload_n hX (dc_J7_fill_53178 2 rfl) rfl 1 rfl ?_
  refine g_alen (w := (Int32.ofNat n0)) hX (dc_J7_fill_53178 3 rfl) ha0 (by decide) rfl ?_
  refine g_istore_n (L' := [(3, .int (Int32.ofNat n0)), (2, .int (0 : Int32)), (0, .ref a0), (1, .int x1)]) hX (dc_J7_fill_53178 4 rfl) rfl (by decide) rfl ?_
  exact g_sub [2, 3, 1, 0] rfl (c_J7_fill_53178_5 hX hO a0 n0 FU (x1) ((0 : Int32)) ((Int32.ofNat n0)) σ ha0)
def f_J7_fill_53178 (a0 : Nat) (n0 : Nat) (x1 : Int32) (σ : MS) : Option (MS) := b_J7_fill_53178_0 a0 n0 x1 σ
theorem con_J7_fill_53178 {Ω : OM} (hO : OKO Ω) (a0 : Nat) (n0 : Nat) (x1 : Int32) (σ : MS) (ha0 : tf Ω σ a0 (0, n0)) : Con Ω yJ7_fill_53178 cJ7_fill_53178 4 none rm_J7_fill_53178 (emWV) [.ref a0, .int x1] σ (f_J7_fill_53178 a0 n0 x1 σ) :=
  con_ofF hO (by decide +kernel) (Nat.le_of_ble_eq_true rfl) rfl (fun X hX _ => c_J7_fill_53178_0 hX hO a0 n0  x1 σ ha0)
def it_X4_restart : List (Nat × Instr × Nat × Nat) := [(0, .aload_n 0, 1, 1), (1, .iconst 0, 1, 2), (2, .putfield 15, 3, 5), (5, .aload_n 0, 1, 6), (6, .iconst 0, 1, 7), (7, .putfield 19, 3, 10), (10, .return_, 1, 11)]
theorem id_X4_restart : ∀ q ∈ it_X4_restart, decode cX4_restart q.1 = .ok (q.2.1, q.2.2.1) ∧ q.1 + q.2.2.1 = q.2.2.2 := by decide +kernel
theorem dc_X4_restart {pc : Nat} {i : Instr} {n pc' : Nat} (j : Nat) (h : it_X4_restart[j]? = some (pc, i, n, pc')) : Dc cX4_restart pc i n pc' := dc_of id_X4_restart j h
abbrev rm_X4_restart : Room := { frames := 0, cells := 0, slots := 0, locals := 0 }
def b_X4_restart_0 (a0 : Nat)    (σ : MS) : Option (MS) := some ((wI (wI σ a0 1 (0 : Int32)) a0 6 (0 : Int32)))
set_option maxHeartbeats 4000000 in
set_option maxRecDepth 20000 in
theorem c_X4_restart_0 {X : CX} {Ω : OM} (hX : CF X Ω RX4 cX4_restart 1 none rm_X4_restart) (hO : OKO Ω) (hΩ : oSH Ω = SHX) (a0 : Nat) (ha0 : sRt Ω a0 [(14, 0)])    (σ : MS)  : GE X Ω 1 0 0 (emWV) 0 0 0 [(0, .ref a0)] [] σ (b_X4_restart_0 a0 σ) := by
  unfold b_X4_restart_0
  refine g_aload_n hX (dc_X4_restart 0 rfl) rfl 0 rfl ?_
  refine g_iconst (w := (0 : Int32)) hX (dc_X4_restart 1 rfl) (by decide) ?_
  refine g_putI (raw := false) hX (dc_X4_restart 2 rfl) fl_X4_15 (by decide) ⟨rfl, rfl⟩ ⟨rfl, rfl⟩ (ha0.tf 0 rfl) ?_
  refine g_aload_n hX (dc_X4_restart 3 rfl) rfl 0 rfl ?_
  refine g_iconst (w := (0 : Int32)) hX (dc_X4_restart 4 rfl) (by decide) ?_
  refine g_putI (raw := false) hX (dc_X4_restart 5 rfl) fl_X4_19 (by decide) ⟨rfl, rfl⟩ ⟨rfl, rfl⟩ (ha0.tf 0 rfl) ?_
  exact g_vret hX (dc_X4_restart 6 rfl) rfl (Nat.le_refl _) (Nat.le_refl _)
def f_X4_restart (a0 : Nat) (σ : MS) : Option (MS) := b_X4_restart_0 a0  σ
theorem con_X4_restart {Ω : OM} (hO : OKO Ω) (hΩ : oSH Ω = SHX) (a0 : Nat) (σ : MS) (ha0 : sRt Ω a0 [(14, 0)]) : Con Ω yX4_restart cX4_restart 1 none rm_X4_restart (emWV) [.ref a0] σ (f_X4_restart a0 σ) :=
  con_of hO (by decide +kernel) (Nat.le_of_ble_eq_true rfl) rfl (fun X hX _ => c_X4_restart_0 hX hO hΩ a0 ha0  σ )
def it_X8_clear : List (Nat × Instr × Nat × Nat) := [(0, .aload_n 0, 1, 1), (1, .getfield 9, 3, 4), (4, .iconst (-1), 1, 5), (5, .invokestatic 21, 3, 8), (8, .aload_n 0, 1, 9), (9, .getfield 15, 3, 12), (12, .iconst 0, 1, 13), (13, .invokestatic 21, 3, 16), (16, .aload_n 0, 1, 17), (17, .getfield 18, 3, 20), (20, .iconst 0, 1, 21), (21, .invokestatic 21, 3, 24), (24, .aload_n 0, 1, 25), (25, .iconst 0, 1, 26), (26, .putfield 27, 3, 29), (29, .aload_n 0, 1, 30), (30, .iconst 0, 1, 31), (31, .putfield 31, 3, 34), (34, .aload_n 0, 1, 35), (35, .iconst 0, 1, 36), (36, .putfield 34, 3, 39), (39, .return_, 1, 40)]
theorem id_X8_clear : ∀ q ∈ it_X8_clear, decode cX8_clear q.1 = .ok (q.2.1, q.2.2.1) ∧ q.1 + q.2.2.1 = q.2.2.2 := by decide +kernel
theorem dc_X8_clear {pc : Nat} {i : Instr} {n pc' : Nat} (j : Nat) (h : it_X8_clear[j]? = some (pc, i, n, pc')) : Dc cX8_clear pc i n pc' := dc_of id_X8_clear j h
abbrev rm_X8_clear : Room := { frames := 1, cells := 0, slots := 0, locals := 23 }
def b_X8_clear_0 (a0 : Nat)    (σ : MS) : Option (MS) := (f_J7_fill_53178 (a0 + 1) 6 (-1 : Int32) σ).bind (fun r4 => (f_J7_fill_53178 (a0 + 2) 6 (0 : Int32) r4).bind (fun r5 => (f_J7_fill_53178 (a0 + 3) 4 (0 : Int32) r5).bind (fun r6 => some ((wI (wI (wI r6 a0 3 (0 : Int32)) a0 4 (0 : Int32)) a0 5 (0 : Int32))))))
set_option maxHeartbeats 4000000 in
set_option maxRecDepth 20000 in
theorem c_X8_clear_0 {X : CX} {Ω : OM} (hX : CF X Ω RX8 cX8_clear 1 none rm_X8_clear) (hO : OKO Ω) (hΩ : oSH Ω = SHX) (a0 : Nat) (ha0 : sRt Ω a0 shState)    (σ : MS)  : GE X Ω 1 0 0 (emWV) 0 0 0 [(0, .ref a0)] [] σ (b_X8_clear_0 a0 σ) := by
  unfold b_X8_clear_0
  refine g_aload_n hX (dc_X8_clear 0 rfl) rfl 0 rfl ?_
  refine g_getF (q := (a0 + 1)) hX (dc_X8_clear 1 rfl) fl_X8_9 (by decide) rfl (ha0.tf 0 rfl) rfl ?_
  refine g_iconst (w := (-1 : Int32)) hX (dc_X8_clear 2 rfl) (by decide) ?_
  refine gS_WV (As := [.ref (a0 + 1), .int (-1 : Int32)]) (st := []) hX (dc_X8_clear 3 rfl) ml_X8_21 (con_J7_fill_53178 hO (a0 + 1) 6 (-1 : Int32) σ (ha0.tf 1 rfl)) rfl rfl ⟨by decide, by decide⟩ ⟨rfl, rfl⟩ ⟨Nat.zero_le _, Nat.zero_le _⟩ (Nat.le_of_ble_eq_true rfl) (fun r4 _ => ?_)
  refine g_aload_n hX (dc_X8_clear 4 rfl) rfl 0 rfl ?_
  refine g_getF (q := (a0 + 2)) hX (dc_X8_clear 5 rfl) fl_X8_15 (by decide) rfl (ha0.tf 0 rfl) rfl ?_
  refine g_iconst (w := (0 : Int32)) hX (dc_X8_clear 6 rfl) (by decide) ?_
  refine gS_WV (As := [.ref (a0 + 2), .int (0 : Int32)]) (st := []) hX (dc_X8_clear 7 rfl) ml_X8_21 (con_J7_fill_53178 hO (a0 + 2) 6 (0 : Int32) r4 (ha0.tf 2 rfl)) rfl rfl ⟨by decide, by decide⟩ ⟨rfl, rfl⟩ ⟨Nat.zero_le _, Nat.zero_le _⟩ (Nat.le_of_ble_eq_true rfl) (fun r5 _ => ?_)
  refine g_aload_n hX (dc_X8_clear 8 rfl) rfl 0 rfl ?_
  refine g_getF (q := (a0 + 3)) hX (dc_X8_clear 9 rfl) fl_X8_18 (by decide) rfl (ha0.tf 0 rfl) rfl ?_
  refine g_iconst (w := (0 : Int32)) hX (dc_X8_clear 10 rfl) (by decide) ?_
  refine gS_WV (As := [.ref (a0 + 3), .int (0 : Int32)]) (st := []) hX (dc_X8_clear 11 rfl) ml_X8_21 (con_J7_fill_53178 hO (a0 + 3) 4 (0 : Int32) r5 (ha0.tf 3 rfl)) rfl rfl ⟨by decide, by decide⟩ ⟨rfl, rfl⟩ ⟨Nat.zero_le _, Nat.zero_le _⟩ (Nat.le_of_ble_eq_true rfl) (fun r6 _ => ?_)
  refine g_aload_n hX (dc_X8_clear 12 rfl) rfl 0 rfl ?_
  refine g_iconst (w := (0 : Int32)) hX (dc_X8_clear 13 rfl) (by decide) ?_
  refine g_putI (raw := false) hX (dc_X8_clear 14 rfl) fl_X8_27 (by decide) ⟨rfl, rfl⟩ ⟨rfl, rfl⟩ (ha0.tf 0 rfl) ?_
  refine g_aload_n hX (dc_X8_clear 15 rfl) rfl 0 rfl ?_
  refine g_iconst (w := (0 : Int32)) hX (dc_X8_clear 16 rfl) (by decide) ?_
  refine g_putI (raw := false) hX (dc_X8_clear 17 rfl) fl_X8_31 (by decide) ⟨rfl, rfl⟩ ⟨rfl, rfl⟩ (ha0.tf 0 rfl) ?_
  refine g_aload_n hX (dc_X8_clear 18 rfl) rfl 0 rfl ?_
  refine g_iconst (w := (0 : Int32)) hX (dc_X8_clear 19 rfl) (by decide) ?_
  refine g_putI (raw := false) hX (dc_X8_clear 20 rfl) fl_X8_34 (by decide) ⟨rfl, rfl⟩ ⟨rfl, rfl⟩ (ha0.tf 0 rfl) ?_
  exact g_vret hX (dc_X8_clear 21 rfl) rfl (Nat.le_refl _) (Nat.le_refl _)
def f_X8_clear (a0 : Nat) (σ : MS) : Option (MS) := b_X8_clear_0 a0  σ
theorem con_X8_clear {Ω : OM} (hO : OKO Ω) (hΩ : oSH Ω = SHX) (a0 : Nat) (σ : MS) (ha0 : sRt Ω a0 shState) : Con Ω yX8_clear cX8_clear 1 none rm_X8_clear (emWV) [.ref a0] σ (f_X8_clear a0 σ) :=
  con_of hO (by decide +kernel) (Nat.le_of_ble_eq_true rfl) rfl (fun X hX _ => c_X8_clear_0 hX hO hΩ a0 ha0  σ )
def it_X3_clear : List (Nat × Instr × Nat × Nat) := [(0, .aload_n 0, 1, 1), (1, .iconst 0, 1, 2), (2, .putfield 40, 3, 5), (5, .aload_n 0, 1, 6), (6, .iconst 0, 1, 7), (7, .putfield 44, 3, 10), (10, .aload_n 0, 1, 11), (11, .iconst 0, 1, 12), (12, .putfield 48, 3, 15), (15, .aload_n 0, 1, 16), (16, .iconst 0, 1, 17), (17, .putfield 51, 3, 20), (20, .aload_n 0, 1, 21), (21, .iconst 0, 1, 22), (22, .putfield 54, 3, 25), (25, .aload_n 0, 1, 26), (26, .getfield 36, 3, 29), (29, .invokevirtual 57, 3, 32), (32, .return_, 1, 33)]
theorem id_X3_clear : ∀ q ∈ it_X3_clear, decode cX3_clear q.1 = .ok (q.2.1, q.2.2.1) ∧ q.1 + q.2.2.1 = q.2.2.2 := by decide +kernel
theorem dc_X3_clear {pc : Nat} {i : Instr} {n pc' : Nat} (j : Nat) (h : it_X3_clear[j]? = some (pc, i, n, pc')) : Dc cX3_clear pc i n pc' := dc_of id_X3_clear j h
abbrev rm_X3_clear : Room := { frames := 2, cells := 0, slots := 0, locals := 43 }
def b_X3_clear_0     (σ : MS) : Option (MS) := (f_X8_clear 12 (wI (wI (wI (wI (wI σ 4 0 (0 : Int32)) 4 1 (0 : Int32)) 4 2 (0 : Int32)) 4 3 (0 : Int32)) 4 4 (0 : Int32))).bind (fun r2 => some (r2))
set_option maxHeartbeats 4000000 in
set_option maxRecDepth 20000 in
theorem c_X3_clear_0 {X : CX} {Ω : OM} (hX : CF X Ω RX3 cX3_clear 1 none rm_X3_clear) (hO : OKO Ω) (hΩ : oSH Ω = SHX)      (σ : MS)  : GE X Ω 1 0 0 (emWV) 0 0 0 [(0, .ref 4)] [] σ (b_X3_clear_0  σ) := by
  unfold b_X3_clear_0
  refine g_aload_n hX (dc_X3_clear 0 rfl) rfl 0 rfl ?_
  refine g_iconst (w := (0 : Int32)) hX (dc_X3_clear 1 rfl) (by decide) ?_
  refine g_putI (raw := false) hX (dc_X3_clear 2 rfl) fl_X3_40 (by decide) ⟨rfl, rfl⟩ ⟨rfl, rfl⟩ (stS hΩ 4 rfl) ?_
  refine g_aload_n hX (dc_X3_clear 3 rfl) rfl 0 rfl ?_
  refine g_iconst (w := (0 : Int32)) hX (dc_X3_clear 4 rfl) (by decide) ?_
  refine g_putI (raw := false) hX (dc_X3_clear 5 rfl) fl_X3_44 (by decide) ⟨rfl, rfl⟩ ⟨rfl, rfl⟩ (stS hΩ 4 rfl) ?_
  refine g_aload_n hX (dc_X3_clear 6 rfl) rfl 0 rfl ?_
  refine g_iconst (w := (0 : Int32)) hX (dc_X3_clear 7 rfl) (by decide) ?_
  refine g_putI (raw := false) hX (dc_X3_clear 8 rfl) fl_X3_48 (by decide) ⟨rfl, rfl⟩ ⟨rfl, rfl⟩ (stS hΩ 4 rfl) ?_
  refine g_aload_n hX (dc_X3_clear 9 rfl) rfl 0 rfl ?_
  refine g_iconst (w := (0 : Int32)) hX (dc_X3_clear 10 rfl) (by decide) ?_
  refine g_putI (raw := false) hX (dc_X3_clear 11 rfl) fl_X3_51 (by decide) ⟨rfl, rfl⟩ ⟨rfl, rfl⟩ (stS hΩ 4 rfl) ?_
  refine g_aload_n hX (dc_X3_clear 12 rfl) rfl 0 rfl ?_
  refine g_iconst (w := (0 : Int32)) hX (dc_X3_clear 13 rfl) (by decide) ?_
  refine g_putI (raw := false) hX (dc_X3_clear 14 rfl) fl_X3_54 (by decide) ⟨rfl, rfl⟩ ⟨rfl, rfl⟩ (stS hΩ 4 rfl) ?_
  refine g_aload_n hX (dc_X3_clear 15 rfl) rfl 0 rfl ?_
  refine g_getF (q := 12) hX (dc_X3_clear 16 rfl) fl_X3_36 (by decide) rfl (stS hΩ 4 rfl) rfl ?_
  refine gV_WV (As := []) (st := []) hX (dc_X3_clear 17 rfl) ml_X3_57 (con_X8_clear hO hΩ 12 (wI (wI (wI (wI (wI σ 4 0 (0 : Int32)) 4 1 (0 : Int32)) 4 2 (0 : Int32)) 4 3 (0 : Int32)) 4 4 (0 : Int32)) (stR hΩ 12 (by decide))) (stS hΩ 12 rfl) rfl rfl ⟨by decide, by decide⟩ ⟨rfl, rfl⟩ ⟨Nat.zero_le _, Nat.zero_le _⟩ (Nat.le_of_ble_eq_true rfl) (fun r2 _ => ?_)
  exact g_vret hX (dc_X3_clear 18 rfl) rfl (Nat.le_refl _) (Nat.le_refl _)
def f_X3_clear  (σ : MS) : Option (MS) := b_X3_clear_0   σ
theorem con_X3_clear {Ω : OM} (hO : OKO Ω) (hΩ : oSH Ω = SHX)  (σ : MS)  : Con Ω yX3_clear cX3_clear 1 none rm_X3_clear (emWV) [.ref 4] σ (f_X3_clear  σ) :=
  con_of hO (by decide +kernel) (Nat.le_of_ble_eq_true rfl) rfl (fun X hX _ => c_X3_clear_0 hX hO hΩ    σ )
def it_X9_byteAt : List (Nat × Instr × Nat × Nat) := [(0, .iload_n 1, 1, 1), (1, .ifCond .lt 20, 3, 4), (4, .iload_n 1, 1, 5), (5, .aload_n 0, 1, 6), (6, .getfield 13, 3, 9), (9, .if_icmp .ge 12, 3, 12), (12, .aload_n 0, 1, 13), (13, .getfield 9, 3, 16), (16, .iload_n 1, 1, 17), (17, .iaload, 1, 18), (18, .goto 4, 3, 21), (21, .iconst (-1), 1, 22), (22, .ireturn, 1, 23)]
theorem id_X9_byteAt : ∀ q ∈ it_X9_byteAt, decode cX9_byteAt q.1 = .ok (q.2.1, q.2.2.1) ∧ q.1 + q.2.2.1 = q.2.2.2 := by decide +kernel
theorem dc_X9_byteAt {pc : Nat} {i : Instr} {n pc' : Nat} (j : Nat) (h : it_X9_byteAt[j]? = some (pc, i, n, pc')) : Dc cX9_byteAt pc i n pc' := dc_of id_X9_byteAt j h
abbrev rm_X9_byteAt : Room := { frames := 0, cells := 0, slots := 0, locals := 0 }
def b_X9_byteAt_22    (s0 : Int32) (σ : MS) : Option (Int32) := some s0
set_option maxHeartbeats 4000000 in
set_option maxRecDepth 20000 in
theorem c_X9_byteAt_22 {X : CX} {Ω : OM} (hX : CF X Ω RX9 cX9_byteAt 2 (some .int) rm_X9_byteAt) (hO : OKO Ω) (hΩ : oSH Ω = SHX)   (σ : MS)   (s0 : Int32)   : GE X Ω 2 0 0 (emPI σ) 0 0 22 [] [.int s0] σ (b_X9_byteAt_22  s0 σ) := by
  unfold b_X9_byteAt_22
  exact g_iret hX (dc_X9_byteAt 12 rfl) rfl rfl (Nat.le_refl _) (Nat.le_refl _)
def b_X9_byteAt_21     (σ : MS) : Option (Int32) := (b_X9_byteAt_22 ((-1 : Int32)) σ)
set_option maxHeartbeats 4000000 in
set_option maxRecDepth 20000 in
theorem c_X9_byteAt_21 {X : CX} {Ω : OM} (hX : CF X Ω RX9 cX9_byteAt 2 (some .int) rm_X9_byteAt) (hO : OKO Ω) (hΩ : oSH Ω = SHX)   (σ : MS)      : GE X Ω 2 0 0 (emPI σ) 0 0 21 [] [] σ (b_X9_byteAt_21  σ) := by
  unfold b_X9_byteAt_21
  refine g_iconst (w := (-1 : Int32)) hX (dc_X9_byteAt 11 rfl) (by decide) ?_
  exact g_sub [] rfl (c_X9_byteAt_22 hX hO hΩ σ ((-1 : Int32)))
def b_X9_byteAt_0   (x1 : Int32)  (σ : MS) : Option (Int32) := (if x1 < 0 then (b_X9_byteAt_21 σ) else (if (sI σ 1 1) ≤ x1 then (b_X9_byteAt_21 σ) else chk (inb x1 400) ((b_X9_byteAt_22 ((sI σ 2 (ix x1))) σ))))
set_option maxHeartbeats 4000000 in
set_option maxRecDepth 20000 in
theorem c_X9_byteAt_0 {X : CX} {Ω : OM} (hX : CF X Ω RX9 cX9_byteAt 2 (some .int) rm_X9_byteAt) (hO : OKO Ω) (hΩ : oSH Ω = SHX)   (σ : MS)  (x1 : Int32)    : GE X Ω 2 0 0 (emPI σ) 0 0 0 [(0, .ref 1), (1, .int x1)] [] σ (b_X9_byteAt_0  x1 σ) := by
  unfold b_X9_byteAt_0
  refine g_iload_n hX (dc_X9_byteAt 0 rfl) rfl 1 rfl ?_
  refine g_if_lt (tgt := 21) hX (dc_X9_byteAt 1 rfl) (by decide) (fun h4 => ?_) (fun h4 => ?_)
  · exact g_sub [] rfl (c_X9_byteAt_21 hX hO hΩ σ)
  · refine g_iload_n hX (dc_X9_byteAt 2 rfl) rfl 1 rfl ?_
    refine g_aload_n hX (dc_X9_byteAt 3 rfl) rfl 0 rfl ?_
    refine g_getI hX (dc_X9_byteAt 4 rfl) fl_X9_13 (by decide) rfl (stS hΩ 1 rfl) ?_
    refine g_icmp_ge (tgt := 21) hX (dc_X9_byteAt 5 rfl) (by decide) (fun h5 => ?_) (fun h5 => ?_)
    · exact g_sub [] rfl (c_X9_byteAt_21 hX hO hΩ σ)
    · refine g_aload_n hX (dc_X9_byteAt 6 rfl) rfl 0 rfl ?_
      refine g_getF (q := 2) hX (dc_X9_byteAt 7 rfl) fl_X9_9 (by decide) rfl (stS hΩ 1 rfl) rfl ?_
      refine g_iload_n hX (dc_X9_byteAt 8 rfl) rfl 1 rfl ?_
      refine g_chk (fun hc6 => ?_)
      refine g_iald hX (dc_X9_byteAt 9 rfl) (stS hΩ 2 rfl) hc6 rfl ?_
      refine g_goto (tgt := 22) hX (dc_X9_byteAt 10 rfl) (by decide) ?_
      exact g_sub [] rfl (c_X9_byteAt_22 hX hO hΩ σ ((sI σ 2 (ix x1))))
def f_X9_byteAt (x1 : Int32) (σ : MS) : Option (Int32) := b_X9_byteAt_0  x1 σ
theorem con_X9_byteAt {Ω : OM} (hO : OKO Ω) (hΩ : oSH Ω = SHX) (x1 : Int32) (σ : MS)  : Con Ω yX9_byteAt cX9_byteAt 2 (some .int) rm_X9_byteAt (emPI σ) [.ref 1, .int x1] σ (f_X9_byteAt x1 σ) :=
  con_of hO (by decide +kernel) (Nat.le_of_ble_eq_true rfl) rfl (fun X hX _ => c_X9_byteAt_0 hX hO hΩ   σ x1)
def it_X4_isDigit : List (Nat × Instr × Nat × Nat) := [(0, .iload_n 0, 1, 1), (1, .bipush 48, 2, 3), (3, .if_icmp .lt 13, 3, 6), (6, .iload_n 0, 1, 7), (7, .bipush 57, 2, 9), (9, .if_icmp .gt 7, 3, 12), (12, .iconst 1, 1, 13), (13, .goto 4, 3, 16), (16, .iconst 0, 1, 17), (17, .ireturn, 1, 18)]
theorem id_X4_isDigit : ∀ q ∈ it_X4_isDigit, decode cX4_isDigit q.1 = .ok (q.2.1, q.2.2.1) ∧ q.1 + q.2.2.1 = q.2.2.2 := by decide +kernel
theorem dc_X4_isDigit {pc : Nat} {i : Instr} {n pc' : Nat} (j : Nat) (h : it_X4_isDigit[j]? = some (pc, i, n, pc')) : Dc cX4_isDigit pc i n pc' := dc_of id_X4_isDigit j h
abbrev rm_X4_isDigit : Room := { frames := 0, cells := 0, slots := 0, locals := 0 }
def b_X4_isDigit_17    (s0 : Int32)  : Option (Int32) := chk (s0 = 0 ∨ s0 = 1) (some s0)
set_option maxHeartbeats 4000000 in
set_option maxRecDepth 20000 in
theorem c_X4_isDigit_17 {X : CX} {Ω : OM} (hX : CF X Ω RX4 cX4_isDigit 1 (some .boolean) rm_X4_isDigit) (hO : OKO Ω) (hΩ : oSH Ω = SHX)   (σ : MS)   (s0 : Int32)   : GE X Ω 1 0 0 (emPI σ) 0 0 17 [] [.int s0] σ (b_X4_isDigit_17  s0) := by
  unfold b_X4_isDigit_17
  refine g_chk (fun hc4 => ?_)
  exact g_iret hX (dc_X4_isDigit 9 rfl) (nz_bool hc4).1 rfl (Nat.le_refl _) (Nat.le_refl _)
def b_X4_isDigit_16      : Option (Int32) := (b_X4_isDigit_17 ((0 : Int32)))
set_option maxHeartbeats 4000000 in
set_option maxRecDepth 20000 in
theorem c_X4_isDigit_16 {X : CX} {Ω : OM} (hX : CF X Ω RX4 cX4_isDigit 1 (some .boolean) rm_X4_isDigit) (hO : OKO Ω) (hΩ : oSH Ω = SHX)   (σ : MS)      : GE X Ω 1 0 0 (emPI σ) 0 0 16 [] [] σ (b_X4_isDigit_16  ) := by
  unfold b_X4_isDigit_16
  refine g_iconst (w := (0 : Int32)) hX (dc_X4_isDigit 8 rfl) (by decide) ?_
  exact g_sub [] rfl (c_X4_isDigit_17 hX hO hΩ σ ((0 : Int32)))
def b_X4_isDigit_0   (x0 : Int32)   : Option (Int32) := (if x0 < (48 : Int32) then (b_X4_isDigit_16) else (if (57 : Int32) < x0 then (b_X4_isDigit_16) else (b_X4_isDigit_17 ((1 : Int32)))))
set_option maxHeartbeats 4000000 in
set_option maxRecDepth 20000 in
theorem c_X4_isDigit_0 {X : CX} {Ω : OM} (hX : CF X Ω RX4 cX4_isDigit 1 (some .boolean) rm_X4_isDigit) (hO : OKO Ω) (hΩ : oSH Ω = SHX)   (σ : MS)  (x0 : Int32)    : GE X Ω 1 0 0 (emPI σ) 0 0 0 [(0, .int x0)] [] σ (b_X4_isDigit_0  x0) := by
  unfold b_X4_isDigit_0
  refine g_iload_n hX (dc_X4_isDigit 0 rfl) rfl 0 rfl ?_
  refine g_bipush (w := (48 : Int32)) hX (dc_X4_isDigit 1 rfl) (by decide) ?_
  refine g_icmp_lt (tgt := 16) hX (dc_X4_isDigit 2 rfl) (by decide) (fun h5 => ?_) (fun h5 => ?_)
  · exact g_sub [] rfl (c_X4_isDigit_16 hX hO hΩ σ)
  · refine g_iload_n hX (dc_X4_isDigit 3 rfl) rfl 0 rfl ?_
    refine g_bipush (w := (57 : Int32)) hX (dc_X4_isDigit 4 rfl) (by decide) ?_
    refine g_icmp_gt (tgt := 16) hX (dc_X4_isDigit 5 rfl) (by decide) (fun h6 => ?_) (fun h6 => ?_)
    · exact g_sub [] rfl (c_X4_isDigit_16 hX hO hΩ σ)
    · refine g_iconst (w := (1 : Int32)) hX (dc_X4_isDigit 6 rfl) (by decide) ?_
      refine g_goto (tgt := 17) hX (dc_X4_isDigit 7 rfl) (by decide) ?_
      exact g_sub [] rfl (c_X4_isDigit_17 hX hO hΩ σ ((1 : Int32)))
def f_X4_isDigit (x0 : Int32)  : Option (Int32) := b_X4_isDigit_0  x0 
theorem con_X4_isDigit {Ω : OM} (hO : OKO Ω) (hΩ : oSH Ω = SHX) (x0 : Int32) (σ : MS)  : Con Ω yX4_isDigit cX4_isDigit 1 (some .boolean) rm_X4_isDigit (emPI σ) [.int x0] σ (f_X4_isDigit x0 ) :=
  con_of hO (by decide +kernel) (Nat.le_of_ble_eq_true rfl) rfl (fun X hX _ => c_X4_isDigit_0 hX hO hΩ   σ x0)
def it_X4_readDigits : List (Nat × Instr × Nat × Nat) := [(0, .aload_n 0, 1, 1), (1, .iconst 0, 1, 2), (2, .putfield 54, 3, 5), (5, .aload_n 0, 1, 6), (6, .getfield 15, 3, 9), (9, .aload_n 0, 1, 10), (10, .getfield 9, 3, 13), (13, .getfield 25, 3, 16), (16, .if_icmp .ge 80, 3, 19), (19, .aload_n 0, 1, 20), (20, .getfield 9, 3, 23), (23, .aload_n 0, 1, 24), (24, .getfield 15, 3, 27), (27, .invokevirtual 30, 3, 30), (30, .invokestatic 37, 3, 33), (33, .ifCond .eq 63, 3, 36), (36, .aload_n 0, 1, 37), (37, .getfield 15, 3, 40), (40, .aload_n 0, 1, 41), (41, .getfield 22, 3, 44), (44, .isub, 1, 45), (45, .iconst 5, 1, 46), (46, .if_icmp .ge 32, 3, 49), (49, .aload_n 0, 1, 50), (50, .aload_n 0, 1, 51), (51, .getfield 54, 3, 54), (54, .bipush 10, 2, 56), (56, .imul, 1, 57), (57, .aload_n 0, 1, 58), (58, .getfield 9, 3, 61), (61, .aload_n 0, 1, 62), (62, .getfield 15, 3, 65), (65, .invokevirtual 30, 3, 68), (68, .iadd, 1, 69), (69, .bipush 48, 2, 71), (71, .isub, 1, 72), (72, .putfield 54, 3, 75), (75, .goto 8, 3, 78), (78, .aload_n 0, 1, 79), (79, .iconst (-1), 1, 80), (80, .putfield 54, 3, 83), (83, .aload_n 0, 1, 84), (84, .dup, 1, 85), (85, .getfield 15, 3, 88), (88, .iconst 1, 1, 89), (89, .iadd, 1, 90), (90, .putfield 15, 3, 93), (93, .goto (-88), 3, 96), (96, .return_, 1, 97)]
theorem id_X4_readDigits : ∀ q ∈ it_X4_readDigits, decode cX4_readDigits q.1 = .ok (q.2.1, q.2.2.1) ∧ q.1 + q.2.2.1 = q.2.2.2 := by decide +kernel
theorem dc_X4_readDigits {pc : Nat} {i : Instr} {n pc' : Nat} (j : Nat) (h : it_X4_readDigits[j]? = some (pc, i, n, pc')) : Dc cX4_readDigits pc i n pc' := dc_of id_X4_readDigits j h
abbrev rm_X4_readDigits : Room := { frames := 1, cells := 0, slots := 0, locals := 21 }
def b_X4_readDigits_96 (a0 : Nat)    (σ : MS) : Option (MS) := some (σ)
set_option maxHeartbeats 4000000 in
set_option maxRecDepth 20000 in
theorem c_X4_readDigits_96 {X : CX} {Ω : OM} (hX : CF X Ω RX4 cX4_readDigits 1 none rm_X4_readDigits) (hO : OKO Ω) (hΩ : oSH Ω = SHX) (a0 : Nat) (ha0 : sRt Ω a0 [(14, 0)])    (σ : MS)  : GE X Ω 1 0 0 (emWV) 0 0 96 [] [] σ (b_X4_readDigits_96 a0 σ) := by
  unfold b_X4_readDigits_96
  exact g_vret hX (dc_X4_readDigits 48 rfl) rfl (Nat.le_refl _) (Nat.le_refl _)
def b_X4_readDigits_83 (a0 : Nat) (k5 : MS → Option (MS))   (σ : MS) : Option (MS) := (k5 (wI σ a0 1 ((sI σ a0 1) + (1 : Int32))))
set_option maxHeartbeats 4000000 in
set_option maxRecDepth 20000 in
theorem c_X4_readDigits_83 {X : CX} {Ω : OM} (hX : CF X Ω RX4 cX4_readDigits 1 none rm_X4_readDigits) (hO : OKO Ω) (hΩ : oSH Ω = SHX) (a0 : Nat) (ha0 : sRt Ω a0 [(14, 0)]) (k5 : MS → Option (MS)) (hk5 : ∀  (σ : MS) , GE X Ω 1 0 0 (emWV) 0 0 5 [(0, .ref a0)] [] σ (k5 σ))   (σ : MS)  : GE X Ω 1 0 0 (emWV) 0 0 83 [(0, .ref a0)] [] σ (b_X4_readDigits_83 a0 k5 σ) := by
  unfold b_X4_readDigits_83
  refine g_aload_n hX (dc_X4_readDigits 41 rfl) rfl 0 rfl ?_
  refine g_dup hX (dc_X4_readDigits 42 rfl) rfl ?_
  refine g_getI hX (dc_X4_readDigits 43 rfl) fl_X4_15 (by decide) rfl (ha0.tf 0 rfl) ?_
  refine g_iconst (w := (1 : Int32)) hX (dc_X4_readDigits 44 rfl) (by decide) ?_
  refine g_iadd hX (dc_X4_readDigits 45 rfl) ?_
  refine g_putI (raw := false) hX (dc_X4_readDigits 46 rfl) fl_X4_15 (by decide) ⟨rfl, rfl⟩ ⟨rfl, rfl⟩ (ha0.tf 0 rfl) ?_
  refine g_goto (tgt := 5) hX (dc_X4_readDigits 47 rfl) (by decide) ?_
  exact g_sub [0] rfl (hk5 (wI σ a0 1 ((sI σ a0 1) + (1 : Int32))) )
def b_X4_readDigits_5 (a0 : Nat)  : Nat → MS → Option (MS)
  | 0, _ => none
  | n + 1, σ => (if (sI σ 1 1) ≤ (sI σ a0 1) then (b_X4_readDigits_96 a0 σ) else (f_X9_byteAt (sI σ a0 1) σ).bind (fun r8 => (f_X4_isDigit r8).bind (fun r9 => (if r9 = 0 then (b_X4_readDigits_96 a0 σ) else (if (5 : Int32) ≤ ((sI σ a0 1) - (sI σ a0 3)) then (b_X4_readDigits_83 a0 (b_X4_readDigits_5 a0 n) (wI σ a0 4 (-1 : Int32))) else (f_X9_byteAt (sI σ a0 1) σ).bind (fun r12 => (b_X4_readDigits_83 a0 (b_X4_readDigits_5 a0 n) (wI σ a0 4 ((((sI σ a0 4) * (10 : Int32)) + r12) - (48 : Int32))))))))))
set_option maxHeartbeats 4000000 in
set_option maxRecDepth 20000 in
theorem c_X4_readDigits_5 {X : CX} {Ω : OM} (hX : CF X Ω RX4 cX4_readDigits 1 none rm_X4_readDigits) (hO : OKO Ω) (hΩ : oSH Ω = SHX) (a0 : Nat) (ha0 : sRt Ω a0 [(14, 0)])  : ∀ (n : Nat)  (σ : MS) , GE X Ω 1 0 0 (emWV) 0 0 5 [(0, .ref a0)] [] σ (b_X4_readDigits_5 a0 n σ)
  | 0, _ => g_none
  | n + 1, σ => by
    have hk5 := c_X4_readDigits_5 hX hO hΩ a0 ha0 n
    unfold b_X4_readDigits_5
    refine g_aload_n hX (dc_X4_readDigits 3 rfl) rfl 0 rfl ?_
    refine g_getI hX (dc_X4_readDigits 4 rfl) fl_X4_15 (by decide) rfl (ha0.tf 0 rfl) ?_
    refine g_aload_n hX (dc_X4_readDigits 5 rfl) rfl 0 rfl ?_
    refine g_getF (q := 1) hX (dc_X4_readDigits 6 rfl) fl_X4_9 (by decide) rfl (ha0.tf 0 rfl) rfl ?_
    refine g_getI hX (dc_X4_readDigits 7 rfl) fl_X4_25 (by decide) rfl (stS hΩ 1 rfl) ?_
    refine g_icmp_ge (tgt := 96) hX (dc_X4_readDigits 8 rfl) (by decide) (fun h7 => ?_) (fun h7 => ?_)
    · exact g_sub [] rfl (c_X4_readDigits_96 hX hO hΩ a0 ha0 σ)
    · refine g_aload_n hX (dc_X4_readDigits 9 rfl) rfl 0 rfl ?_
      refine g_getF (q := 1) hX (dc_X4_readDigits 10 rfl) fl_X4_9 (by decide) rfl (ha0.tf 0 rfl) rfl ?_
      refine g_aload_n hX (dc_X4_readDigits 11 rfl) rfl 0 rfl ?_
      refine g_getI hX (dc_X4_readDigits 12 rfl) fl_X4_15 (by decide) rfl (ha0.tf 0 rfl) ?_
      refine gV_PI (As := [.int (sI σ a0 1)]) (st := []) hX (dc_X4_readDigits 13 rfl) ml_X4_30 (con_X9_byteAt hO hΩ (sI σ a0 1) σ) (stS hΩ 1 rfl) rfl rfl ⟨by decide, by decide⟩ ⟨rfl, rfl⟩ ⟨Nat.zero_le _, Nat.zero_le _⟩ (Nat.le_of_ble_eq_true rfl) (fun r8 _ => ?_)
      refine gS_PI (As := [.int r8]) (st := []) hX (dc_X4_readDigits 14 rfl) ml_X4_37 (con_X4_isDigit hO hΩ r8 σ) rfl rfl ⟨by decide, by decide⟩ ⟨rfl, rfl⟩ ⟨Nat.zero_le _, Nat.zero_le _⟩ (Nat.le_of_ble_eq_true rfl) (fun r9 _ => ?_)
      refine g_if_eq (tgt := 96) hX (dc_X4_readDigits 15 rfl) (by decide) (fun h10 => ?_) (fun h10 => ?_)
      · exact g_sub [] rfl (c_X4_readDigits_96 hX hO hΩ a0 ha0 σ)
      · refine g_aload_n hX (dc_X4_readDigits 16 rfl) rfl 0 rfl ?_
        refine g_getI hX (dc_X4_readDigits 17 rfl) fl_X4_15 (by decide) rfl (ha0.tf 0 rfl) ?_
        refine g_aload_n hX (dc_X4_readDigits 18 rfl) rfl 0 rfl ?_
        refine g_getI hX (dc_X4_readDigits 19 rfl) fl_X4_22 (by decide) rfl (ha0.tf 0 rfl) ?_
        refine g_isub hX (dc_X4_readDigits 20 rfl) ?_
        refine g_iconst (w := (5 : Int32)) hX (dc_X4_readDigits 21 rfl) (by decide) ?_
        refine g_icmp_ge (tgt := 78) hX (dc_X4_readDigits 22 rfl) (by decide) (fun h11 => ?_) (fun h11 => ?_)
        · refine g_aload_n hX (dc_X4_readDigits 38 rfl) rfl 0 rfl ?_
          refine g_iconst (w := (-1 : Int32)) hX (dc_X4_readDigits 39 rfl) (by decide) ?_
          refine g_putI (raw := false) hX (dc_X4_readDigits 40 rfl) fl_X4_54 (by decide) ⟨rfl, rfl⟩ ⟨rfl, rfl⟩ (ha0.tf 0 rfl) ?_
          exact g_sub [0] rfl (c_X4_readDigits_83 hX hO hΩ a0 ha0 _ hk5 (wI σ a0 4 (-1 : Int32)))
        · refine g_aload_n hX (dc_X4_readDigits 23 rfl) rfl 0 rfl ?_
          refine g_aload_n hX (dc_X4_readDigits 24 rfl) rfl 0 rfl ?_
          refine g_getI hX (dc_X4_readDigits 25 rfl) fl_X4_54 (by decide) rfl (ha0.tf 0 rfl) ?_
          refine g_bipush (w := (10 : Int32)) hX (dc_X4_readDigits 26 rfl) (by decide) ?_
          refine g_imul hX (dc_X4_readDigits 27 rfl) ?_
          refine g_aload_n hX (dc_X4_readDigits 28 rfl) rfl 0 rfl ?_
          refine g_getF (q := 1) hX (dc_X4_readDigits 29 rfl) fl_X4_9 (by decide) rfl (ha0.tf 0 rfl) rfl ?_
          refine g_aload_n hX (dc_X4_readDigits 30 rfl) rfl 0 rfl ?_
          refine g_getI hX (dc_X4_readDigits 31 rfl) fl_X4_15 (by decide) rfl (ha0.tf 0 rfl) ?_
          refine gV_PI (As := [.int (sI σ a0 1)]) (st := [.int ((sI σ a0 4) * (10 : Int32)), .ref a0]) hX (dc_X4_readDigits 32 rfl) ml_X4_30 (con_X9_byteAt hO hΩ (sI σ a0 1) σ) (stS hΩ 1 rfl) rfl rfl ⟨by decide, by decide⟩ ⟨rfl, rfl⟩ ⟨Nat.zero_le _, Nat.zero_le _⟩ (Nat.le_of_ble_eq_true rfl) (fun r12 _ => ?_)
          refine g_iadd hX (dc_X4_readDigits 33 rfl) ?_
          refine g_bipush (w := (48 : Int32)) hX (dc_X4_readDigits 34 rfl) (by decide) ?_
          refine g_isub hX (dc_X4_readDigits 35 rfl) ?_
          refine g_putI (raw := false) hX (dc_X4_readDigits 36 rfl) fl_X4_54 (by decide) ⟨rfl, rfl⟩ ⟨rfl, rfl⟩ (ha0.tf 0 rfl) ?_
          refine g_goto (tgt := 83) hX (dc_X4_readDigits 37 rfl) (by decide) ?_
          exact g_sub [0] rfl (c_X4_readDigits_83 hX hO hΩ a0 ha0 _ hk5 (wI σ a0 4 ((((sI σ a0 4) * (10 : Int32)) + r12) - (48 : Int32))))
def b_X4_readDigits_0 (a0 : Nat)    (σ : MS) : Option (MS) := (b_X4_readDigits_5 a0 FU (wI σ a0 4 (0 : Int32)))
set_option maxHeartbeats 4000000 in
set_option maxRecDepth 20000 in
theorem c_X4_readDigits_0 {X : CX} {Ω : OM} (hX : CF X Ω RX4 cX4_readDigits 1 none rm_X4_readDigits) (hO : OKO Ω) (hΩ : oSH Ω = SHX) (a0 : Nat) (ha0 : sRt Ω a0 [(14, 0)])    (σ : MS)  : GE X Ω 1 0 0 (emWV) 0 0 0 [(0, .ref a0)] [] σ (b_X4_readDigits_0 a0 σ) := by
  unfold b_X4_readDigits_0
  refine g_aload_n hX (dc_X4_readDigits 0 rfl) rfl 0 rfl ?_
  refine g_iconst (w := (0 : Int32)) hX (dc_X4_readDigits 1 rfl) (by decide) ?_
  refine g_putI (raw := false) hX (dc_X4_readDigits 2 rfl) fl_X4_54 (by decide) ⟨rfl, rfl⟩ ⟨rfl, rfl⟩ (ha0.tf 0 rfl) ?_
  exact g_sub [0] rfl (c_X4_readDigits_5 hX hO hΩ a0 ha0 FU (wI σ a0 4 (0 : Int32)))
def f_X4_readDigits (a0 : Nat) (σ : MS) : Option (MS) := b_X4_readDigits_0 a0  σ
theorem con_X4_readDigits {Ω : OM} (hO : OKO Ω) (hΩ : oSH Ω = SHX) (a0 : Nat) (σ : MS) (ha0 : sRt Ω a0 [(14, 0)]) : Con Ω yX4_readDigits cX4_readDigits 1 none rm_X4_readDigits (emWV) [.ref a0] σ (f_X4_readDigits a0 σ) :=
  con_of hO (by decide +kernel) (Nat.le_of_ble_eq_true rfl) rfl (fun X hX _ => c_X4_readDigits_0 hX hO hΩ a0 ha0  σ )
def it_X4_isLetter : List (Nat × Instr × Nat × Nat) := [(0, .iload_n 0, 1, 1), (1, .bipush 97, 2, 3), (3, .if_icmp .lt 13, 3, 6), (6, .iload_n 0, 1, 7), (7, .bipush 122, 2, 9), (9, .if_icmp .gt 7, 3, 12), (12, .iconst 1, 1, 13), (13, .goto 4, 3, 16), (16, .iconst 0, 1, 17), (17, .ireturn, 1, 18)]
theorem id_X4_isLetter : ∀ q ∈ it_X4_isLetter, decode cX4_isLetter q.1 = .ok (q.2.1, q.2.2.1) ∧ q.1 + q.2.2.1 = q.2.2.2 := by decide +kernel
theorem dc_X4_isLetter {pc : Nat} {i : Instr} {n pc' : Nat} (j : Nat) (h : it_X4_isLetter[j]? = some (pc, i, n, pc')) : Dc cX4_isLetter pc i n pc' := dc_of id_X4_isLetter j h
abbrev rm_X4_isLetter : Room := { frames := 0, cells := 0, slots := 0, locals := 0 }
def b_X4_isLetter_17    (s0 : Int32)  : Option (Int32) := chk (s0 = 0 ∨ s0 = 1) (some s0)
set_option maxHeartbeats 4000000 in
set_option maxRecDepth 20000 in
theorem c_X4_isLetter_17 {X : CX} {Ω : OM} (hX : CF X Ω RX4 cX4_isLetter 1 (some .boolean) rm_X4_isLetter) (hO : OKO Ω) (hΩ : oSH Ω = SHX)   (σ : MS)   (s0 : Int32)   : GE X Ω 1 0 0 (emPI σ) 0 0 17 [] [.int s0] σ (b_X4_isLetter_17  s0) := by
  unfold b_X4_isLetter_17
  refine g_chk (fun hc4 => ?_)
  exact g_iret hX (dc_X4_isLetter 9 rfl) (nz_bool hc4).1 rfl (Nat.le_refl _) (Nat.le_refl _)
def b_X4_isLetter_16      : Option (Int32) := (b_X4_isLetter_17 ((0 : Int32)))
set_option maxHeartbeats 4000000 in
set_option maxRecDepth 20000 in
theorem c_X4_isLetter_16 {X : CX} {Ω : OM} (hX : CF X Ω RX4 cX4_isLetter 1 (some .boolean) rm_X4_isLetter) (hO : OKO Ω) (hΩ : oSH Ω = SHX)   (σ : MS)      : GE X Ω 1 0 0 (emPI σ) 0 0 16 [] [] σ (b_X4_isLetter_16  ) := by
  unfold b_X4_isLetter_16
  refine g_iconst (w := (0 : Int32)) hX (dc_X4_isLetter 8 rfl) (by decide) ?_
  exact g_sub [] rfl (c_X4_isLetter_17 hX hO hΩ σ ((0 : Int32)))
def b_X4_isLetter_0   (x0 : Int32)   : Option (Int32) := (if x0 < (97 : Int32) then (b_X4_isLetter_16) else (if (122 : Int32) < x0 then (b_X4_isLetter_16) else (b_X4_isLetter_17 ((1 : Int32)))))
set_option maxHeartbeats 4000000 in
set_option maxRecDepth 20000 in
theorem c_X4_isLetter_0 {X : CX} {Ω : OM} (hX : CF X Ω RX4 cX4_isLetter 1 (some .boolean) rm_X4_isLetter) (hO : OKO Ω) (hΩ : oSH Ω = SHX)   (σ : MS)  (x0 : Int32)    : GE X Ω 1 0 0 (emPI σ) 0 0 0 [(0, .int x0)] [] σ (b_X4_isLetter_0  x0) := by
  unfold b_X4_isLetter_0
  refine g_iload_n hX (dc_X4_isLetter 0 rfl) rfl 0 rfl ?_
  refine g_bipush (w := (97 : Int32)) hX (dc_X4_isLetter 1 rfl) (by decide) ?_
  refine g_icmp_lt (tgt := 16) hX (dc_X4_isLetter 2 rfl) (by decide) (fun h5 => ?_) (fun h5 => ?_)
  · exact g_sub [] rfl (c_X4_isLetter_16 hX hO hΩ σ)
  · refine g_iload_n hX (dc_X4_isLetter 3 rfl) rfl 0 rfl ?_
    refine g_bipush (w := (122 : Int32)) hX (dc_X4_isLetter 4 rfl) (by decide) ?_
    refine g_icmp_gt (tgt := 16) hX (dc_X4_isLetter 5 rfl) (by decide) (fun h6 => ?_) (fun h6 => ?_)
    · exact g_sub [] rfl (c_X4_isLetter_16 hX hO hΩ σ)
    · refine g_iconst (w := (1 : Int32)) hX (dc_X4_isLetter 6 rfl) (by decide) ?_
      refine g_goto (tgt := 17) hX (dc_X4_isLetter 7 rfl) (by decide) ?_
      exact g_sub [] rfl (c_X4_isLetter_17 hX hO hΩ σ ((1 : Int32)))
def f_X4_isLetter (x0 : Int32)  : Option (Int32) := b_X4_isLetter_0  x0 
theorem con_X4_isLetter {Ω : OM} (hO : OKO Ω) (hΩ : oSH Ω = SHX) (x0 : Int32) (σ : MS)  : Con Ω yX4_isLetter cX4_isLetter 1 (some .boolean) rm_X4_isLetter (emPI σ) [.int x0] σ (f_X4_isLetter x0 ) :=
  con_of hO (by decide +kernel) (Nat.le_of_ble_eq_true rfl) rfl (fun X hX _ => c_X4_isLetter_0 hX hO hΩ   σ x0)
def it_X4_readLetters : List (Nat × Instr × Nat × Nat) := [(0, .aload_n 0, 1, 1), (1, .getfield 15, 3, 4), (4, .aload_n 0, 1, 5), (5, .getfield 9, 3, 8), (8, .getfield 25, 3, 11), (11, .if_icmp .ge 33, 3, 14), (14, .aload_n 0, 1, 15), (15, .getfield 9, 3, 18), (18, .aload_n 0, 1, 19), (19, .getfield 15, 3, 22), (22, .invokevirtual 30, 3, 25), (25, .invokestatic 44, 3, 28), (28, .ifCond .eq 16, 3, 31), (31, .aload_n 0, 1, 32), (32, .dup, 1, 33), (33, .getfield 15, 3, 36), (36, .iconst 1, 1, 37), (37, .iadd, 1, 38), (38, .putfield 15, 3, 41), (41, .goto (-41), 3, 44), (44, .return_, 1, 45)]
theorem id_X4_readLetters : ∀ q ∈ it_X4_readLetters, decode cX4_readLetters q.1 = .ok (q.2.1, q.2.2.1) ∧ q.1 + q.2.2.1 = q.2.2.2 := by decide +kernel
theorem dc_X4_readLetters {pc : Nat} {i : Instr} {n pc' : Nat} (j : Nat) (h : it_X4_readLetters[j]? = some (pc, i, n, pc')) : Dc cX4_readLetters pc i n pc' := dc_of id_X4_readLetters j h
abbrev rm_X4_readLetters : Room := { frames := 1, cells := 0, slots := 0, locals := 21 }
def b_X4_readLetters_44 (a0 : Nat)    (σ : MS) : Option (MS) := some (σ)
set_option maxHeartbeats 4000000 in
set_option maxRecDepth 20000 in
theorem c_X4_readLetters_44 {X : CX} {Ω : OM} (hX : CF X Ω RX4 cX4_readLetters 1 none rm_X4_readLetters) (hO : OKO Ω) (hΩ : oSH Ω = SHX) (a0 : Nat) (ha0 : sRt Ω a0 [(14, 0)])    (σ : MS)  : GE X Ω 1 0 0 (emWV) 0 0 44 [] [] σ (b_X4_readLetters_44 a0 σ) := by
  unfold b_X4_readLetters_44
  exact g_vret hX (dc_X4_readLetters 20 rfl) rfl (Nat.le_refl _) (Nat.le_refl _)
def b_X4_readLetters_0 (a0 : Nat)  : Nat → MS → Option (MS)
  | 0, _ => none
  | n + 1, σ => (if (sI σ 1 1) ≤ (sI σ a0 1) then (b_X4_readLetters_44 a0 σ) else (f_X9_byteAt (sI σ a0 1) σ).bind (fun r6 => (f_X4_isLetter r6).bind (fun r7 => (if r7 = 0 then (b_X4_readLetters_44 a0 σ) else ((b_X4_readLetters_0 a0 n) (wI σ a0 1 ((sI σ a0 1) + (1 : Int32))))))))
set_option maxHeartbeats 4000000 in
set_option maxRecDepth 20000 in
theorem c_X4_readLetters_0 {X : CX} {Ω : OM} (hX : CF X Ω RX4 cX4_readLetters 1 none rm_X4_readLetters) (hO : OKO Ω) (hΩ : oSH Ω = SHX) (a0 : Nat) (ha0 : sRt Ω a0 [(14, 0)])  : ∀ (n : Nat)  (σ : MS) , GE X Ω 1 0 0 (emWV) 0 0 0 [(0, .ref a0)] [] σ (b_X4_readLetters_0 a0 n σ)
  | 0, _ => g_none
  | n + 1, σ => by
    have hk0 := c_X4_readLetters_0 hX hO hΩ a0 ha0 n
    unfold b_X4_readLetters_0
    refine g_aload_n hX (dc_X4_readLetters 0 rfl) rfl 0 rfl ?_
    refine g_getI hX (dc_X4_readLetters 1 rfl) fl_X4_15 (by decide) rfl (ha0.tf 0 rfl) ?_
    refine g_aload_n hX (dc_X4_readLetters 2 rfl) rfl 0 rfl ?_
    refine g_getF (q := 1) hX (dc_X4_readLetters 3 rfl) fl_X4_9 (by decide) rfl (ha0.tf 0 rfl) rfl ?_
    refine g_getI hX (dc_X4_readLetters 4 rfl) fl_X4_25 (by decide) rfl (stS hΩ 1 rfl) ?_
    refine g_icmp_ge (tgt := 44) hX (dc_X4_readLetters 5 rfl) (by decide) (fun h5 => ?_) (fun h5 => ?_)
    · exact g_sub [] rfl (c_X4_readLetters_44 hX hO hΩ a0 ha0 σ)
    · refine g_aload_n hX (dc_X4_readLetters 6 rfl) rfl 0 rfl ?_
      refine g_getF (q := 1) hX (dc_X4_readLetters 7 rfl) fl_X4_9 (by decide) rfl (ha0.tf 0 rfl) rfl ?_
      refine g_aload_n hX (dc_X4_readLetters 8 rfl) rfl 0 rfl ?_
      refine g_getI hX (dc_X4_readLetters 9 rfl) fl_X4_15 (by decide) rfl (ha0.tf 0 rfl) ?_
      refine gV_PI (As := [.int (sI σ a0 1)]) (st := []) hX (dc_X4_readLetters 10 rfl) ml_X4_30 (con_X9_byteAt hO hΩ (sI σ a0 1) σ) (stS hΩ 1 rfl) rfl rfl ⟨by decide, by decide⟩ ⟨rfl, rfl⟩ ⟨Nat.zero_le _, Nat.zero_le _⟩ (Nat.le_of_ble_eq_true rfl) (fun r6 _ => ?_)
      refine gS_PI (As := [.int r6]) (st := []) hX (dc_X4_readLetters 11 rfl) ml_X4_44 (con_X4_isLetter hO hΩ r6 σ) rfl rfl ⟨by decide, by decide⟩ ⟨rfl, rfl⟩ ⟨Nat.zero_le _, Nat.zero_le _⟩ (Nat.le_of_ble_eq_true rfl) (fun r7 _ => ?_)
      refine g_if_eq (tgt := 44) hX (dc_X4_readLetters 12 rfl) (by decide) (fun h8 => ?_) (fun h8 => ?_)
      · exact g_sub [] rfl (c_X4_readLetters_44 hX hO hΩ a0 ha0 σ)
      · refine g_aload_n hX (dc_X4_readLetters 13 rfl) rfl 0 rfl ?_
        refine g_dup hX (dc_X4_readLetters 14 rfl) rfl ?_
        refine g_getI hX (dc_X4_readLetters 15 rfl) fl_X4_15 (by decide) rfl (ha0.tf 0 rfl) ?_
        refine g_iconst (w := (1 : Int32)) hX (dc_X4_readLetters 16 rfl) (by decide) ?_
        refine g_iadd hX (dc_X4_readLetters 17 rfl) ?_
        refine g_putI (raw := false) hX (dc_X4_readLetters 18 rfl) fl_X4_15 (by decide) ⟨rfl, rfl⟩ ⟨rfl, rfl⟩ (ha0.tf 0 rfl) ?_
        refine g_goto (tgt := 0) hX (dc_X4_readLetters 19 rfl) (by decide) ?_
        exact g_sub [0] rfl (hk0 (wI σ a0 1 ((sI σ a0 1) + (1 : Int32))) )
def f_X4_readLetters (a0 : Nat) (σ : MS) : Option (MS) := b_X4_readLetters_0 a0 FU  σ
theorem con_X4_readLetters {Ω : OM} (hO : OKO Ω) (hΩ : oSH Ω = SHX) (a0 : Nat) (σ : MS) (ha0 : sRt Ω a0 [(14, 0)]) : Con Ω yX4_readLetters cX4_readLetters 1 none rm_X4_readLetters (emWV) [.ref a0] σ (f_X4_readLetters a0 σ) :=
  con_of hO (by decide +kernel) (Nat.le_of_ble_eq_true rfl) rfl (fun X hX _ => g_sub [0] rfl <| c_X4_readLetters_0 hX hO hΩ a0 ha0 FU  σ )
def it_X4_readSign : List (Nat × Instr × Nat × Nat) := [(0, .aload_n 0, 1, 1), (1, .iload_n 1, 1, 2), (2, .putfield 57, 3, 5), (5, .aload_n 0, 1, 6), (6, .dup, 1, 7), (7, .getfield 15, 3, 10), (10, .iconst 1, 1, 11), (11, .iadd, 1, 12), (12, .putfield 15, 3, 15), (15, .iload_n 1, 1, 16), (16, .bipush 60, 2, 18), (18, .if_icmp .eq 9, 3, 21), (21, .iload_n 1, 1, 22), (22, .bipush 62, 2, 24), (24, .if_icmp .ne 41, 3, 27), (27, .aload_n 0, 1, 28), (28, .getfield 9, 3, 31), (31, .aload_n 0, 1, 32), (32, .getfield 15, 3, 35), (35, .invokevirtual 30, 3, 38), (38, .bipush 61, 2, 40), (40, .if_icmp .ne 25, 3, 43), (43, .aload_n 0, 1, 44), (44, .dup, 1, 45), (45, .getfield 57, 3, 48), (48, .sipush 256, 3, 51), (51, .iadd, 1, 52), (52, .putfield 57, 3, 55), (55, .aload_n 0, 1, 56), (56, .dup, 1, 57), (57, .getfield 15, 3, 60), (60, .iconst 1, 1, 61), (61, .iadd, 1, 62), (62, .putfield 15, 3, 65), (65, .return_, 1, 66)]
theorem id_X4_readSign : ∀ q ∈ it_X4_readSign, decode cX4_readSign q.1 = .ok (q.2.1, q.2.2.1) ∧ q.1 + q.2.2.1 = q.2.2.2 := by decide +kernel
theorem dc_X4_readSign {pc : Nat} {i : Instr} {n pc' : Nat} (j : Nat) (h : it_X4_readSign[j]? = some (pc, i, n, pc')) : Dc cX4_readSign pc i n pc' := dc_of id_X4_readSign j h
abbrev rm_X4_readSign : Room := { frames := 1, cells := 0, slots := 0, locals := 21 }
def b_X4_readSign_65 (a0 : Nat)    (σ : MS) : Option (MS) := some (σ)
set_option maxHeartbeats 4000000 in
set_option maxRecDepth 20000 in
theorem c_X4_readSign_65 {X : CX} {Ω : OM} (hX : CF X Ω RX4 cX4_readSign 2 none rm_X4_readSign) (hO : OKO Ω) (hΩ : oSH Ω = SHX) (a0 : Nat) (ha0 : sRt Ω a0 [(14, 0)])    (σ : MS)  : GE X Ω 2 0 0 (emWV) 0 0 65 [] [] σ (b_X4_readSign_65 a0 σ) := by
  unfold b_X4_readSign_65
  exact g_vret hX (dc_X4_readSign 34 rfl) rfl (Nat.le_refl _) (Nat.le_refl _)
def b_X4_readSign_27 (a0 : Nat)    (σ : MS) : Option (MS) := (f_X9_byteAt (sI σ a0 1) σ).bind (fun r5 => (if r5 = (61 : Int32) then (b_X4_readSign_65 a0 (wI (wI σ a0 5 ((sI σ a0 5) + (256 : Int32))) a0 1 ((sI (wI σ a0 5 ((sI σ a0 5) + (256 : Int32))) a0 1) + (1 : Int32)))) else (b_X4_readSign_65 a0 σ)))
set_option maxHeartbeats 4000000 in
set_option maxRecDepth 20000 in
theorem c_X4_readSign_27 {X : CX} {Ω : OM} (hX : CF X Ω RX4 cX4_readSign 2 none rm_X4_readSign) (hO : OKO Ω) (hΩ : oSH Ω = SHX) (a0 : Nat) (ha0 : sRt Ω a0 [(14, 0)])    (σ : MS)  : GE X Ω 2 0 0 (emWV) 0 0 27 [(0, .ref a0)] [] σ (b_X4_readSign_27 a0 σ) := by
  unfold b_X4_readSign_27
  refine g_aload_n hX (dc_X4_readSign 15 rfl) rfl 0 rfl ?_
  refine g_getF (q := 1) hX (dc_X4_readSign 16 rfl) fl_X4_9 (by decide) rfl (ha0.tf 0 rfl) rfl ?_
  refine g_aload_n hX (dc_X4_readSign 17 rfl) rfl 0 rfl ?_
  refine g_getI hX (dc_X4_readSign 18 rfl) fl_X4_15 (by decide) rfl (ha0.tf 0 rfl) ?_
  refine gV_PI (As := [.int (sI σ a0 1)]) (st := []) hX (dc_X4_readSign 19 rfl) ml_X4_30 (con_X9_byteAt hO hΩ (sI σ a0 1) σ) (stS hΩ 1 rfl) rfl rfl ⟨by decide, by decide⟩ ⟨rfl, rfl⟩ ⟨Nat.zero_le _, Nat.zero_le _⟩ (Nat.le_of_ble_eq_true rfl) (fun r5 _ => ?_)
  refine g_bipush (w := (61 : Int32)) hX (dc_X4_readSign 20 rfl) (by decide) ?_
  refine g_icmp_ne (tgt := 65) hX (dc_X4_readSign 21 rfl) (by decide) (fun h6 => ?_) (fun h6 => ?_)
  · refine g_aload_n hX (dc_X4_readSign 22 rfl) rfl 0 rfl ?_
    refine g_dup hX (dc_X4_readSign 23 rfl) rfl ?_
    refine g_getI hX (dc_X4_readSign 24 rfl) fl_X4_57 (by decide) rfl (ha0.tf 0 rfl) ?_
    refine g_sipush (w := (256 : Int32)) hX (dc_X4_readSign 25 rfl) (by decide) ?_
    refine g_iadd hX (dc_X4_readSign 26 rfl) ?_
    refine g_putI (raw := false) hX (dc_X4_readSign 27 rfl) fl_X4_57 (by decide) ⟨rfl, rfl⟩ ⟨rfl, rfl⟩ (ha0.tf 0 rfl) ?_
    refine g_aload_n hX (dc_X4_readSign 28 rfl) rfl 0 rfl ?_
    refine g_dup hX (dc_X4_readSign 29 rfl) rfl ?_
    refine g_getI hX (dc_X4_readSign 30 rfl) fl_X4_15 (by decide) rfl (ha0.tf 0 rfl) ?_
    refine g_iconst (w := (1 : Int32)) hX (dc_X4_readSign 31 rfl) (by decide) ?_
    refine g_iadd hX (dc_X4_readSign 32 rfl) ?_
    refine g_putI (raw := false) hX (dc_X4_readSign 33 rfl) fl_X4_15 (by decide) ⟨rfl, rfl⟩ ⟨rfl, rfl⟩ (ha0.tf 0 rfl) ?_
    exact g_sub [] rfl (c_X4_readSign_65 hX hO hΩ a0 ha0 (wI (wI σ a0 5 ((sI σ a0 5) + (256 : Int32))) a0 1 ((sI (wI σ a0 5 ((sI σ a0 5) + (256 : Int32))) a0 1) + (1 : Int32))))
  · exact g_sub [] rfl (c_X4_readSign_65 hX hO hΩ a0 ha0 σ)
def b_X4_readSign_0 (a0 : Nat)  (x1 : Int32)  (σ : MS) : Option (MS) := (if x1 = (60 : Int32) then (b_X4_readSign_27 a0 (wI (wI σ a0 5 x1) a0 1 ((sI (wI σ a0 5 x1) a0 1) + (1 : Int32)))) else (if x1 = (62 : Int32) then (b_X4_readSign_27 a0 (wI (wI σ a0 5 x1) a0 1 ((sI (wI σ a0 5 x1) a0 1) + (1 : Int32)))) else (b_X4_readSign_65 a0 (wI (wI σ a0 5 x1) a0 1 ((sI (wI σ a0 5 x1) a0 1) + (1 : Int32))))))
set_option maxHeartbeats 4000000 in
set_option maxRecDepth 20000 in
theorem c_X4_readSign_0 {X : CX} {Ω : OM} (hX : CF X Ω RX4 cX4_readSign 2 none rm_X4_readSign) (hO : OKO Ω) (hΩ : oSH Ω = SHX) (a0 : Nat) (ha0 : sRt Ω a0 [(14, 0)])  (x1 : Int32)  (σ : MS)  : GE X Ω 2 0 0 (emWV) 0 0 0 [(0, .ref a0), (1, .int x1)] [] σ (b_X4_readSign_0 a0 x1 σ) := by
  unfold b_X4_readSign_0
  refine g_aload_n hX (dc_X4_readSign 0 rfl) rfl 0 rfl ?_
  refine g_iload_n hX (dc_X4_readSign 1 rfl) rfl 1 rfl ?_
  refine g_putI (raw := false) hX (dc_X4_readSign 2 rfl) fl_X4_57 (by decide) ⟨rfl, rfl⟩ ⟨rfl, rfl⟩ (ha0.tf 0 rfl) ?_
  refine g_aload_n hX (dc_X4_readSign 3 rfl) rfl 0 rfl ?_
  refine g_dup hX (dc_X4_readSign 4 rfl) rfl ?_
  refine g_getI hX (dc_X4_readSign 5 rfl) fl_X4_15 (by decide) rfl (ha0.tf 0 rfl) ?_
  refine g_iconst (w := (1 : Int32)) hX (dc_X4_readSign 6 rfl) (by decide) ?_
  refine g_iadd hX (dc_X4_readSign 7 rfl) ?_
  refine g_putI (raw := false) hX (dc_X4_readSign 8 rfl) fl_X4_15 (by decide) ⟨rfl, rfl⟩ ⟨rfl, rfl⟩ (ha0.tf 0 rfl) ?_
  refine g_iload_n hX (dc_X4_readSign 9 rfl) rfl 1 rfl ?_
  refine g_bipush (w := (60 : Int32)) hX (dc_X4_readSign 10 rfl) (by decide) ?_
  refine g_icmp_eq (tgt := 27) hX (dc_X4_readSign 11 rfl) (by decide) (fun h7 => ?_) (fun h7 => ?_)
  · exact g_sub [0] rfl (c_X4_readSign_27 hX hO hΩ a0 ha0 (wI (wI σ a0 5 x1) a0 1 ((sI (wI σ a0 5 x1) a0 1) + (1 : Int32))))
  · refine g_iload_n hX (dc_X4_readSign 12 rfl) rfl 1 rfl ?_
    refine g_bipush (w := (62 : Int32)) hX (dc_X4_readSign 13 rfl) (by decide) ?_
    refine g_icmp_ne (tgt := 65) hX (dc_X4_readSign 14 rfl) (by decide) (fun h8 => ?_) (fun h8 => ?_)
    · exact g_sub [0] rfl (c_X4_readSign_27 hX hO hΩ a0 ha0 (wI (wI σ a0 5 x1) a0 1 ((sI (wI σ a0 5 x1) a0 1) + (1 : Int32))))
    · exact g_sub [] rfl (c_X4_readSign_65 hX hO hΩ a0 ha0 (wI (wI σ a0 5 x1) a0 1 ((sI (wI σ a0 5 x1) a0 1) + (1 : Int32))))
def f_X4_readSign (a0 : Nat) (x1 : Int32) (σ : MS) : Option (MS) := b_X4_readSign_0 a0 x1 σ
theorem con_X4_readSign {Ω : OM} (hO : OKO Ω) (hΩ : oSH Ω = SHX) (a0 : Nat) (x1 : Int32) (σ : MS) (ha0 : sRt Ω a0 [(14, 0)]) : Con Ω yX4_readSign cX4_readSign 2 none rm_X4_readSign (emWV) [.ref a0, .int x1] σ (f_X4_readSign a0 x1 σ) :=
  con_of hO (by decide +kernel) (Nat.le_of_ble_eq_true rfl) rfl (fun X hX _ => c_X4_readSign_0 hX hO hΩ a0 ha0 x1 σ )
def it_X4_advance : List (Nat × Instr × Nat × Nat) := [(0, .aload_n 0, 1, 1), (1, .getfield 15, 3, 4), (4, .aload_n 0, 1, 5), (5, .getfield 9, 3, 8), (8, .getfield 25, 3, 11), (11, .if_icmp .ge 32, 3, 14), (14, .aload_n 0, 1, 15), (15, .getfield 9, 3, 18), (18, .aload_n 0, 1, 19), (19, .getfield 15, 3, 22), (22, .invokevirtual 30, 3, 25), (25, .bipush 32, 2, 27), (27, .if_icmp .ne 16, 3, 30), (30, .aload_n 0, 1, 31), (31, .dup, 1, 32), (32, .getfield 15, 3, 35), (35, .iconst 1, 1, 36), (36, .iadd, 1, 37), (37, .putfield 15, 3, 40), (40, .goto (-40), 3, 43), (43, .aload_n 0, 1, 44), (44, .aload_n 0, 1, 45), (45, .getfield 15, 3, 48), (48, .putfield 22, 3, 51), (51, .aload_n 0, 1, 52), (52, .getfield 9, 3, 55), (55, .aload_n 0, 1, 56), (56, .getfield 15, 3, 59), (59, .invokevirtual 30, 3, 62), (62, .istore_n 1, 1, 63), (63, .iload_n 1, 1, 64), (64, .iconst (-1), 1, 65), (65, .if_icmp .ne 11, 3, 68), (68, .aload_n 0, 1, 69), (69, .iconst 0, 1, 70), (70, .putfield 34, 3, 73), (73, .goto 51, 3, 76), (76, .iload_n 1, 1, 77), (77, .invokestatic 37, 3, 80), (80, .ifCond .eq 15, 3, 83), (83, .aload_n 0, 1, 84), (84, .iconst 1, 1, 85), (85, .putfield 34, 3, 88), (88, .aload_n 0, 1, 89), (89, .invokevirtual 41, 3, 92), (92, .goto 32, 3, 95), (95, .iload_n 1, 1, 96), (96, .invokestatic 44, 3, 99), (99, .ifCond .eq 15, 3, 102), (102, .aload_n 0, 1, 103), (103, .iconst 2, 1, 104), (104, .putfield 34, 3, 107), (107, .aload_n 0, 1, 108), (108, .invokevirtual 47, 3, 111), (111, .goto 13, 3, 114), (114, .aload_n 0, 1, 115), (115, .iconst 3, 1, 116), (116, .putfield 34, 3, 119), (119, .aload_n 0, 1, 120), (120, .iload_n 1, 1, 121), (121, .invokevirtual 50, 3, 124), (124, .return_, 1, 125)]
theorem id_X4_advance : ∀ q ∈ it_X4_advance, decode cX4_advance q.1 = .ok (q.2.1, q.2.2.1) ∧ q.1 + q.2.2.1 = q.2.2.2 := by decide +kernel
theorem dc_X4_advance {pc : Nat} {i : Instr} {n pc' : Nat} (j : Nat) (h : it_X4_advance[j]? = some (pc, i, n, pc')) : Dc cX4_advance pc i n pc' := dc_of id_X4_advance j h
abbrev rm_X4_advance : Room := { frames := 2, cells := 0, slots := 0, locals := 42 }
def b_X4_advance_124 (a0 : Nat)    (σ : MS) : Option (MS) := some (σ)
set_option maxHeartbeats 4000000 in
set_option maxRecDepth 20000 in
theorem c_X4_advance_124 {X : CX} {Ω : OM} (hX : CF X Ω RX4 cX4_advance 2 none rm_X4_advance) (hO : OKO Ω) (hΩ : oSH Ω = SHX) (a0 : Nat) (ha0 : sRt Ω a0 [(14, 0)])    (σ : MS)  : GE X Ω 2 0 0 (emWV) 0 0 124 [] [] σ (b_X4_advance_124 a0 σ) := by
  unfold b_X4_advance_124
  exact g_vret hX (dc_X4_advance 61 rfl) rfl (Nat.le_refl _) (Nat.le_refl _)
def b_X4_advance_43 (a0 : Nat)    (σ : MS) : Option (MS) := (f_X9_byteAt (sI (wI σ a0 3 (sI σ a0 1)) a0 1) (wI σ a0 3 (sI σ a0 1))).bind (fun r13 => (if r13 = (-1 : Int32) then (b_X4_advance_124 a0 (wI (wI σ a0 3 (sI σ a0 1)) a0 2 (0 : Int32))) else (f_X4_isDigit r13).bind (fun r15 => (if r15 = 0 then (f_X4_isLetter r13).bind (fun r17 => (if r17 = 0 then (f_X4_readSign a0 r13 (wI (wI σ a0 3 (sI σ a0 1)) a0 2 (3 : Int32))).bind (fun r19 => (b_X4_advance_124 a0 r19)) else (f_X4_readLetters a0 (wI (wI σ a0 3 (sI σ a0 1)) a0 2 (2 : Int32))).bind (fun r20 => (b_X4_advance_124 a0 r20)))) else (f_X4_readDigits a0 (wI (wI σ a0 3 (sI σ a0 1)) a0 2 (1 : Int32))).bind (fun r21 => (b_X4_advance_124 a0 r21))))))
set_option maxHeartbeats 4000000 in
set_option maxRecDepth 20000 in
theorem c_X4_advance_43 {X : CX} {Ω : OM} (hX : CF X Ω RX4 cX4_advance 2 none rm_X4_advance) (hO : OKO Ω) (hΩ : oSH Ω = SHX) (a0 : Nat) (ha0 : sRt Ω a0 [(14, 0)])    (σ : MS)  : GE X Ω 2 0 0 (emWV) 0 0 43 [(0, .ref a0)] [] σ (b_X4_advance_43 a0 σ) := by
  unfold b_X4_advance_43
  refine g_aload_n hX (dc_X4_advance 20 rfl) rfl 0 rfl ?_
  refine g_aload_n hX (dc_X4_advance 21 rfl) rfl 0 rfl ?_
  refine g_getI hX (dc_X4_advance 22 rfl) fl_X4_15 (by decide) rfl (ha0.tf 0 rfl) ?_
  refine g_putI (raw := false) hX (dc_X4_advance 23 rfl) fl_X4_22 (by decide) ⟨rfl, rfl⟩ ⟨rfl, rfl⟩ (ha0.tf 0 rfl) ?_
  refine g_aload_n hX (dc_X4_advance 24 rfl) rfl 0 rfl ?_
  refine g_getF (q := 1) hX (dc_X4_advance 25 rfl) fl_X4_9 (by decide) rfl (ha0.tf 0 rfl) rfl ?_
  refine g_aload_n hX (dc_X4_advance 26 rfl) rfl 0 rfl ?_
  refine g_getI hX (dc_X4_advance 27 rfl) fl_X4_15 (by decide) rfl (ha0.tf 0 rfl) ?_
  refine gV_PI (As := [.int (sI (wI σ a0 3 (sI σ a0 1)) a0 1)]) (st := []) hX (dc_X4_advance 28 rfl) ml_X4_30 (con_X9_byteAt hO hΩ (sI (wI σ a0 3 (sI σ a0 1)) a0 1) (wI σ a0 3 (sI σ a0 1))) (stS hΩ 1 rfl) rfl rfl ⟨by decide, by decide⟩ ⟨rfl, rfl⟩ ⟨Nat.zero_le _, Nat.zero_le _⟩ (Nat.le_of_ble_eq_true rfl) (fun r13 _ => ?_)
  refine g_istore_n (L' := [(1, .int r13), (0, .ref a0)]) hX (dc_X4_advance 29 rfl) rfl (by decide) rfl ?_
  refine g_iload_n hX (dc_X4_advance 30 rfl) rfl 0 rfl ?_
  refine g_iconst (w := (-1 : Int32)) hX (dc_X4_advance 31 rfl) (by decide) ?_
  refine g_icmp_ne (tgt := 76) hX (dc_X4_advance 32 rfl) (by decide) (fun h14 => ?_) (fun h14 => ?_)
  · refine g_aload_n hX (dc_X4_advance 33 rfl) rfl 1 rfl ?_
    refine g_iconst (w := (0 : Int32)) hX (dc_X4_advance 34 rfl) (by decide) ?_
    refine g_putI (raw := false) hX (dc_X4_advance 35 rfl) fl_X4_34 (by decide) ⟨rfl, rfl⟩ ⟨rfl, rfl⟩ (ha0.tf 0 rfl) ?_
    refine g_goto (tgt := 124) hX (dc_X4_advance 36 rfl) (by decide) ?_
    exact g_sub [] rfl (c_X4_advance_124 hX hO hΩ a0 ha0 (wI (wI σ a0 3 (sI σ a0 1)) a0 2 (0 : Int32)))
  · refine g_iload_n hX (dc_X4_advance 37 rfl) rfl 0 rfl ?_
    refine gS_PI (As := [.int r13]) (st := []) hX (dc_X4_advance 38 rfl) ml_X4_37 (con_X4_isDigit hO hΩ r13 (wI σ a0 3 (sI σ a0 1))) rfl rfl ⟨by decide, by decide⟩ ⟨rfl, rfl⟩ ⟨Nat.zero_le _, Nat.zero_le _⟩ (Nat.le_of_ble_eq_true rfl) (fun r15 _ => ?_)
    refine g_if_eq (tgt := 95) hX (dc_X4_advance 39 rfl) (by decide) (fun h16 => ?_) (fun h16 => ?_)
    · refine g_iload_n hX (dc_X4_advance 46 rfl) rfl 0 rfl ?_
      refine gS_PI (As := [.int r13]) (st := []) hX (dc_X4_advance 47 rfl) ml_X4_44 (con_X4_isLetter hO hΩ r13 (wI σ a0 3 (sI σ a0 1))) rfl rfl ⟨by decide, by decide⟩ ⟨rfl, rfl⟩ ⟨Nat.zero_le _, Nat.zero_le _⟩ (Nat.le_of_ble_eq_true rfl) (fun r17 _ => ?_)
      refine g_if_eq (tgt := 114) hX (dc_X4_advance 48 rfl) (by decide) (fun h18 => ?_) (fun h18 => ?_)
      · refine g_aload_n hX (dc_X4_advance 55 rfl) rfl 1 rfl ?_
        refine g_iconst (w := (3 : Int32)) hX (dc_X4_advance 56 rfl) (by decide) ?_
        refine g_putI (raw := false) hX (dc_X4_advance 57 rfl) fl_X4_34 (by decide) ⟨rfl, rfl⟩ ⟨rfl, rfl⟩ (ha0.tf 0 rfl) ?_
        refine g_aload_n hX (dc_X4_advance 58 rfl) rfl 1 rfl ?_
        refine g_iload_n hX (dc_X4_advance 59 rfl) rfl 0 rfl ?_
        refine gV_WV (As := [.int r13]) (st := []) hX (dc_X4_advance 60 rfl) ml_X4_50 (con_X4_readSign hO hΩ a0 r13 (wI (wI σ a0 3 (sI σ a0 1)) a0 2 (3 : Int32)) ha0) (ha0.tf 0 rfl) rfl rfl ⟨by decide, by decide⟩ ⟨rfl, rfl⟩ ⟨Nat.zero_le _, Nat.zero_le _⟩ (Nat.le_of_ble_eq_true rfl) (fun r19 _ => ?_)
        exact g_sub [] rfl (c_X4_advance_124 hX hO hΩ a0 ha0 r19)
      · refine g_aload_n hX (dc_X4_advance 49 rfl) rfl 1 rfl ?_
        refine g_iconst (w := (2 : Int32)) hX (dc_X4_advance 50 rfl) (by decide) ?_
        refine g_putI (raw := false) hX (dc_X4_advance 51 rfl) fl_X4_34 (by decide) ⟨rfl, rfl⟩ ⟨rfl, rfl⟩ (ha0.tf 0 rfl) ?_
        refine g_aload_n hX (dc_X4_advance 52 rfl) rfl 1 rfl ?_
        refine gV_WV (As := []) (st := []) hX (dc_X4_advance 53 rfl) ml_X4_47 (con_X4_readLetters hO hΩ a0 (wI (wI σ a0 3 (sI σ a0 1)) a0 2 (2 : Int32)) ha0) (ha0.tf 0 rfl) rfl rfl ⟨by decide, by decide⟩ ⟨rfl, rfl⟩ ⟨Nat.zero_le _, Nat.zero_le _⟩ (Nat.le_of_ble_eq_true rfl) (fun r20 _ => ?_)
        refine g_goto (tgt := 124) hX (dc_X4_advance 54 rfl) (by decide) ?_
        exact g_sub [] rfl (c_X4_advance_124 hX hO hΩ a0 ha0 r20)
    · refine g_aload_n hX (dc_X4_advance 40 rfl) rfl 1 rfl ?_
      refine g_iconst (w := (1 : Int32)) hX (dc_X4_advance 41 rfl) (by decide) ?_
      refine g_putI (raw := false) hX (dc_X4_advance 42 rfl) fl_X4_34 (by decide) ⟨rfl, rfl⟩ ⟨rfl, rfl⟩ (ha0.tf 0 rfl) ?_
      refine g_aload_n hX (dc_X4_advance 43 rfl) rfl 1 rfl ?_
      refine gV_WV (As := []) (st := []) hX (dc_X4_advance 44 rfl) ml_X4_41 (con_X4_readDigits hO hΩ a0 (wI (wI σ a0 3 (sI σ a0 1)) a0 2 (1 : Int32)) ha0) (ha0.tf 0 rfl) rfl rfl ⟨by decide, by decide⟩ ⟨rfl, rfl⟩ ⟨Nat.zero_le _, Nat.zero_le _⟩ (Nat.le_of_ble_eq_true rfl) (fun r21 _ => ?_)
      refine g_goto (tgt := 124) hX (dc_X4_advance 45 rfl) (by decide) ?_
      exact g_sub [] rfl (c_X4_advance_124 hX hO hΩ a0 ha0 r21)
def b_X4_advance_0 (a0 : Nat)  : Nat → MS → Option (MS)
  | 0, _ => none
  | n + 1, σ => (if (sI σ 1 1) ≤ (sI σ a0 1) then (b_X4_advance_43 a0 σ) else (f_X9_byteAt (sI σ a0 1) σ).bind (fun r23 => (if r23 = (32 : Int32) then ((b_X4_advance_0 a0 n) (wI σ a0 1 ((sI σ a0 1) + (1 : Int32)))) else (b_X4_advance_43 a0 σ))))
set_option maxHeartbeats 4000000 in
set_option maxRecDepth 20000 in
theorem c_X4_advance_0 {X : CX} {Ω : OM} (hX : CF X Ω RX4 cX4_advance 2 none rm_X4_advance) (hO : OKO Ω) (hΩ : oSH Ω = SHX) (a0 : Nat) (ha0 : sRt Ω a0 [(14, 0)])  : ∀ (n : Nat)  (σ : MS) , GE X Ω 2 0 0 (emWV) 0 0 0 [(0, .ref a0)] [] σ (b_X4_advance_0 a0 n σ)
  | 0, _ => g_none
  | n + 1, σ => by
    have hk0 := c_X4_advance_0 hX hO hΩ a0 ha0 n
    unfold b_X4_advance_0
    refine g_aload_n hX (dc_X4_advance 0 rfl) rfl 0 rfl ?_
    refine g_getI hX (dc_X4_advance 1 rfl) fl_X4_15 (by decide) rfl (ha0.tf 0 rfl) ?_
    refine g_aload_n hX (dc_X4_advance 2 rfl) rfl 0 rfl ?_
    refine g_getF (q := 1) hX (dc_X4_advance 3 rfl) fl_X4_9 (by decide) rfl (ha0.tf 0 rfl) rfl ?_
    refine g_getI hX (dc_X4_advance 4 rfl) fl_X4_25 (by decide) rfl (stS hΩ 1 rfl) ?_
    refine g_icmp_ge (tgt := 43) hX (dc_X4_advance 5 rfl) (by decide) (fun h22 => ?_) (fun h22 => ?_)
    · exact g_sub [0] rfl (c_X4_advance_43 hX hO hΩ a0 ha0 σ)
    · refine g_aload_n hX (dc_X4_advance 6 rfl) rfl 0 rfl ?_
      refine g_getF (q := 1) hX (dc_X4_advance 7 rfl) fl_X4_9 (by decide) rfl (ha0.tf 0 rfl) rfl ?_
      refine g_aload_n hX (dc_X4_advance 8 rfl) rfl 0 rfl ?_
      refine g_getI hX (dc_X4_advance 9 rfl) fl_X4_15 (by decide) rfl (ha0.tf 0 rfl) ?_
      refine gV_PI (As := [.int (sI σ a0 1)]) (st := []) hX (dc_X4_advance 10 rfl) ml_X4_30 (con_X9_byteAt hO hΩ (sI σ a0 1) σ) (stS hΩ 1 rfl) rfl rfl ⟨by decide, by decide⟩ ⟨rfl, rfl⟩ ⟨Nat.zero_le _, Nat.zero_le _⟩ (Nat.le_of_ble_eq_true rfl) (fun r23 _ => ?_)
      refine g_bipush (w := (32 : Int32)) hX (dc_X4_advance 11 rfl) (by decide) ?_
      refine g_icmp_ne (tgt := 43) hX (dc_X4_advance 12 rfl) (by decide) (fun h24 => ?_) (fun h24 => ?_)
      · refine g_aload_n hX (dc_X4_advance 13 rfl) rfl 0 rfl ?_
        refine g_dup hX (dc_X4_advance 14 rfl) rfl ?_
        refine g_getI hX (dc_X4_advance 15 rfl) fl_X4_15 (by decide) rfl (ha0.tf 0 rfl) ?_
        refine g_iconst (w := (1 : Int32)) hX (dc_X4_advance 16 rfl) (by decide) ?_
        refine g_iadd hX (dc_X4_advance 17 rfl) ?_
        refine g_putI (raw := false) hX (dc_X4_advance 18 rfl) fl_X4_15 (by decide) ⟨rfl, rfl⟩ ⟨rfl, rfl⟩ (ha0.tf 0 rfl) ?_
        refine g_goto (tgt := 0) hX (dc_X4_advance 19 rfl) (by decide) ?_
        exact g_sub [0] rfl (hk0 (wI σ a0 1 ((sI σ a0 1) + (1 : Int32))) )
      · exact g_sub [0] rfl (c_X4_advance_43 hX hO hΩ a0 ha0 σ)
def f_X4_advance (a0 : Nat) (σ : MS) : Option (MS) := b_X4_advance_0 a0 FU  σ
theorem con_X4_advance {Ω : OM} (hO : OKO Ω) (hΩ : oSH Ω = SHX) (a0 : Nat) (σ : MS) (ha0 : sRt Ω a0 [(14, 0)]) : Con Ω yX4_advance cX4_advance 2 none rm_X4_advance (emWV) [.ref a0] σ (f_X4_advance a0 σ) :=
  con_of hO (by decide +kernel) (Nat.le_of_ble_eq_true rfl) rfl (fun X hX _ => g_sub [0] rfl <| c_X4_advance_0 hX hO hΩ a0 ha0 FU  σ )
def it_J0_coder_7d493 : List (Nat × Instr × Nat × Nat) := [(0, .getstatic 38, 3, 3), (3, .ifCond .eq 10, 3, 6), (6, .aload_n 0, 1, 7), (7, .getfield 15, 3, 10), (10, .goto 4, 3, 13), (13, .iconst 1, 1, 14), (14, .ireturn, 1, 15)]
theorem id_J0_coder_7d493 : ∀ q ∈ it_J0_coder_7d493, decode cJ0_coder_7d493 q.1 = .ok (q.2.1, q.2.2.1) ∧ q.1 + q.2.2.1 = q.2.2.2 := by decide +kernel
theorem dc_J0_coder_7d493 {pc : Nat} {i : Instr} {n pc' : Nat} (j : Nat) (h : it_J0_coder_7d493[j]? = some (pc, i, n, pc')) : Dc cJ0_coder_7d493 pc i n pc' := dc_of id_J0_coder_7d493 j h
abbrev rm_J0_coder_7d493 : Room := { frames := 0, cells := 0, slots := 0, locals := 0 }
def b_J0_coder_7d493_14 (k0 : Nat)   (s0 : Int32)  : Option (Int32) := chk (narrow .byte (.int s0) = .int s0) (some s0)
set_option maxHeartbeats 4000000 in
set_option maxRecDepth 20000 in
theorem c_J0_coder_7d493_14 {X : CX} {Ω : OM} (hX : CF X Ω RJ0 cJ0_coder_7d493 1 (some .byte) rm_J0_coder_7d493) (hO : OKO Ω) (k0 : Nat) (hk0 : k0 < 23) (σ : MS)   (s0 : Int32)   : GE X Ω 1 0 0 (emPI σ) 0 0 14 [] [.int s0] σ (b_J0_coder_7d493_14 k0 s0) := by
  unfold b_J0_coder_7d493_14
  refine g_chk (fun hc3 => ?_)
  exact g_iret hX (dc_J0_coder_7d493 6 rfl) hc3 rfl (Nat.le_refl _) (Nat.le_refl _)
def b_J0_coder_7d493_0 (k0 : Nat)     : Option (Int32) := (if (1 : Int32) = 0 then (b_J0_coder_7d493_14 k0 ((1 : Int32))) else (b_J0_coder_7d493_14 k0 ((0 : Int32))))
set_option maxHeartbeats 4000000 in
set_option maxRecDepth 20000 in
theorem c_J0_coder_7d493_0 {X : CX} {Ω : OM} (hX : CF X Ω RJ0 cJ0_coder_7d493 1 (some .byte) rm_J0_coder_7d493) (hO : OKO Ω) (k0 : Nat) (hk0 : k0 < 23) (σ : MS)      : GE X Ω 1 0 0 (emPI σ) 0 0 0 [(0, .ref (1000000 + k0))] [] σ (b_J0_coder_7d493_0 k0 ) := by
  unfold b_J0_coder_7d493_0
  refine g_gCS hX (dc_J0_coder_7d493 0 rfl) wv_cs ?_
  refine g_if_eq (tgt := 13) hX (dc_J0_coder_7d493 1 rfl) (by decide) (fun h4 => ?_) (fun h4 => ?_)
  · refine g_iconst (w := (1 : Int32)) hX (dc_J0_coder_7d493 5 rfl) (by decide) ?_
    exact g_sub [] rfl (c_J0_coder_7d493_14 hX hO k0 hk0 σ ((1 : Int32)))
  · refine g_aload_n hX (dc_J0_coder_7d493 2 rfl) rfl 0 rfl ?_
    refine g_scod hX (dc_J0_coder_7d493 3 rfl) wv_cod hk0 ?_
    refine g_goto (tgt := 14) hX (dc_J0_coder_7d493 4 rfl) (by decide) ?_
    exact g_sub [] rfl (c_J0_coder_7d493_14 hX hO k0 hk0 σ ((0 : Int32)))
def f_J0_coder_7d493 (k0 : Nat)  : Option (Int32) := b_J0_coder_7d493_0 k0  
theorem con_J0_coder_7d493 {Ω : OM} (hO : OKO Ω) (k0 : Nat) (σ : MS) (hk0 : k0 < 23) : Con Ω yJ0_coder_7d493 cJ0_coder_7d493 1 (some .byte) rm_J0_coder_7d493 (emPI σ) [.ref (1000000 + k0)] σ (f_J0_coder_7d493 k0 ) :=
  con_ofF hO (by decide +kernel) (Nat.le_of_ble_eq_true rfl) rfl (fun X hX _ => c_J0_coder_7d493_0 hX hO k0 hk0 σ )
def it_J0_length_8abf5 : List (Nat × Instr × Nat × Nat) := [(0, .aload_n 0, 1, 1), (1, .getfield 9, 3, 4), (4, .arraylength, 1, 5), (5, .aload_n 0, 1, 6), (6, .invokevirtual 335, 3, 9), (9, .ishr, 1, 10), (10, .ireturn, 1, 11)]
theorem id_J0_length_8abf5 : ∀ q ∈ it_J0_length_8abf5, decode cJ0_length_8abf5 q.1 = .ok (q.2.1, q.2.2.1) ∧ q.1 + q.2.2.1 = q.2.2.2 := by decide +kernel
theorem dc_J0_length_8abf5 {pc : Nat} {i : Instr} {n pc' : Nat} (j : Nat) (h : it_J0_length_8abf5[j]? = some (pc, i, n, pc')) : Dc cJ0_length_8abf5 pc i n pc' := dc_of id_J0_length_8abf5 j h
abbrev rm_J0_length_8abf5 : Room := { frames := 1, cells := 0, slots := 0, locals := 20 }
def b_J0_length_8abf5_0 (k0 : Nat)     : Option (Int32) := (f_J0_coder_7d493 k0).bind (fun r2 => some ((Int32.ofNat (slen.getD k0 0)) >>> (r2 &&& 31)))
set_option maxHeartbeats 4000000 in
set_option maxRecDepth 20000 in
theorem c_J0_length_8abf5_0 {X : CX} {Ω : OM} (hX : CF X Ω RJ0 cJ0_length_8abf5 1 (some .int) rm_J0_length_8abf5) (hO : OKO Ω) (k0 : Nat) (hk0 : k0 < 23) (σ : MS)      : GE X Ω 1 0 0 (emPI σ) 0 0 0 [(0, .ref (1000000 + k0))] [] σ (b_J0_length_8abf5_0 k0 ) := by
  unfold b_J0_length_8abf5_0
  refine g_aload_n hX (dc_J0_length_8abf5 0 rfl) rfl 0 rfl ?_
  refine g_sval hX (dc_J0_length_8abf5 1 rfl) wv_val hk0 ?_
  refine g_salen hX (dc_J0_length_8abf5 2 rfl) hk0 ?_
  refine g_aload_n hX (dc_J0_length_8abf5 3 rfl) rfl 0 rfl ?_
  refine g_callT (As := []) (st := [.int (Int32.ofNat (slen.getD k0 0))]) hX (dc_J0_length_8abf5 4 rfl) ml_J0_335 ⟨wi_J0_coder_7d493, ws_J0_coder_7d493⟩ hk0 (con_J0_coder_7d493 hO k0 σ hk0) rfl rfl ⟨by decide, by decide⟩ ⟨rfl, rfl⟩ ⟨Nat.zero_le _, Nat.zero_le _⟩ (Nat.le_of_ble_eq_true rfl) (fun r2 _ => ?_)
  refine g_ishr hX (dc_J0_length_8abf5 5 rfl) ?_
  exact g_iret hX (dc_J0_length_8abf5 6 rfl) rfl rfl (Nat.le_refl _) (Nat.le_refl _)
def f_J0_length_8abf5 (k0 : Nat)  : Option (Int32) := b_J0_length_8abf5_0 k0  
theorem con_J0_length_8abf5 {Ω : OM} (hO : OKO Ω) (k0 : Nat) (σ : MS) (hk0 : k0 < 23) : Con Ω yJ0_length_8abf5 cJ0_length_8abf5 1 (some .int) rm_J0_length_8abf5 (emPI σ) [.ref (1000000 + k0)] σ (f_J0_length_8abf5 k0 ) :=
  con_ofF hO (by decide +kernel) (Nat.le_of_ble_eq_true rfl) rfl (fun X hX _ => c_J0_length_8abf5_0 hX hO k0 hk0 σ )
def it_J0_isLatin1_aae02 : List (Nat × Instr × Nat × Nat) := [(0, .getstatic 38, 3, 3), (3, .ifCond .eq 14, 3, 6), (6, .aload_n 0, 1, 7), (7, .getfield 15, 3, 10), (10, .ifCond .ne 7, 3, 13), (13, .iconst 1, 1, 14), (14, .goto 4, 3, 17), (17, .iconst 0, 1, 18), (18, .ireturn, 1, 19)]
theorem id_J0_isLatin1_aae02 : ∀ q ∈ it_J0_isLatin1_aae02, decode cJ0_isLatin1_aae02 q.1 = .ok (q.2.1, q.2.2.1) ∧ q.1 + q.2.2.1 = q.2.2.2 := by decide +kernel
theorem dc_J0_isLatin1_aae02 {pc : Nat} {i : Instr} {n pc' : Nat} (j : Nat) (h : it_J0_isLatin1_aae02[j]? = some (pc, i, n, pc')) : Dc cJ0_isLatin1_aae02 pc i n pc' := dc_of id_J0_isLatin1_aae02 j h
abbrev rm_J0_isLatin1_aae02 : Room := { frames := 0, cells := 0, slots := 0, locals := 0 }
def b_J0_isLatin1_aae02_18 (k0 : Nat)   (s0 : Int32)  : Option (Int32) := chk (s0 = 0 ∨ s0 = 1) (some s0)
set_option maxHeartbeats 4000000 in
set_option maxRecDepth 20000 in
theorem c_J0_isLatin1_aae02_18 {X : CX} {Ω : OM} (hX : CF X Ω RJ0 cJ0_isLatin1_aae02 1 (some .boolean) rm_J0_isLatin1_aae02) (hO : OKO Ω) (k0 : Nat) (hk0 : k0 < 23) (σ : MS)   (s0 : Int32)   : GE X Ω 1 0 0 (emPI σ) 0 0 18 [] [.int s0] σ (b_J0_isLatin1_aae02_18 k0 s0) := by
  unfold b_J0_isLatin1_aae02_18
  refine g_chk (fun hc4 => ?_)
  exact g_iret hX (dc_J0_isLatin1_aae02 8 rfl) (nz_bool hc4).1 rfl (Nat.le_refl _) (Nat.le_refl _)
def b_J0_isLatin1_aae02_17 (k0 : Nat)     : Option (Int32) := (b_J0_isLatin1_aae02_18 k0 ((0 : Int32)))
set_option maxHeartbeats 4000000 in
set_option maxRecDepth 20000 in
theorem c_J0_isLatin1_aae02_17 {X : CX} {Ω : OM} (hX : CF X Ω RJ0 cJ0_isLatin1_aae02 1 (some .boolean) rm_J0_isLatin1_aae02) (hO : OKO Ω) (k0 : Nat) (hk0 : k0 < 23) (σ : MS)      : GE X Ω 1 0 0 (emPI σ) 0 0 17 [] [] σ (b_J0_isLatin1_aae02_17 k0 ) := by
  unfold b_J0_isLatin1_aae02_17
  refine g_iconst (w := (0 : Int32)) hX (dc_J0_isLatin1_aae02 7 rfl) (by decide) ?_
  exact g_sub [] rfl (c_J0_isLatin1_aae02_18 hX hO k0 hk0 σ ((0 : Int32)))
def b_J0_isLatin1_aae02_0 (k0 : Nat)     : Option (Int32) := (if (1 : Int32) = 0 then (b_J0_isLatin1_aae02_17 k0) else (if (0 : Int32) = 0 then (b_J0_isLatin1_aae02_18 k0 ((1 : Int32))) else (b_J0_isLatin1_aae02_17 k0)))
set_option maxHeartbeats 4000000 in
set_option maxRecDepth 20000 in
theorem c_J0_isLatin1_aae02_0 {X : CX} {Ω : OM} (hX : CF X Ω RJ0 cJ0_isLatin1_aae02 1 (some .boolean) rm_J0_isLatin1_aae02) (hO : OKO Ω) (k0 : Nat) (hk0 : k0 < 23) (σ : MS)      : GE X Ω 1 0 0 (emPI σ) 0 0 0 [(0, .ref (1000000 + k0))] [] σ (b_J0_isLatin1_aae02_0 k0 ) := by
  unfold b_J0_isLatin1_aae02_0
  refine g_gCS hX (dc_J0_isLatin1_aae02 0 rfl) wv_cs ?_
  refine g_if_eq (tgt := 17) hX (dc_J0_isLatin1_aae02 1 rfl) (by decide) (fun h5 => ?_) (fun h5 => ?_)
  · exact g_sub [] rfl (c_J0_isLatin1_aae02_17 hX hO k0 hk0 σ)
  · refine g_aload_n hX (dc_J0_isLatin1_aae02 2 rfl) rfl 0 rfl ?_
    refine g_scod hX (dc_J0_isLatin1_aae02 3 rfl) wv_cod hk0 ?_
    refine g_if_ne (tgt := 17) hX (dc_J0_isLatin1_aae02 4 rfl) (by decide) (fun h6 => ?_) (fun h6 => ?_)
    · refine g_iconst (w := (1 : Int32)) hX (dc_J0_isLatin1_aae02 5 rfl) (by decide) ?_
      refine g_goto (tgt := 18) hX (dc_J0_isLatin1_aae02 6 rfl) (by decide) ?_
      exact g_sub [] rfl (c_J0_isLatin1_aae02_18 hX hO k0 hk0 σ ((1 : Int32)))
    · exact g_sub [] rfl (c_J0_isLatin1_aae02_17 hX hO k0 hk0 σ)
def f_J0_isLatin1_aae02 (k0 : Nat)  : Option (Int32) := b_J0_isLatin1_aae02_0 k0  
theorem con_J0_isLatin1_aae02 {Ω : OM} (hO : OKO Ω) (k0 : Nat) (σ : MS) (hk0 : k0 < 23) : Con Ω yJ0_isLatin1_aae02 cJ0_isLatin1_aae02 1 (some .boolean) rm_J0_isLatin1_aae02 (emPI σ) [.ref (1000000 + k0)] σ (f_J0_isLatin1_aae02 k0 ) :=
  con_ofF hO (by decide +kernel) (Nat.le_of_ble_eq_true rfl) rfl (fun X hX _ => c_J0_isLatin1_aae02_0 hX hO k0 hk0 σ )
def it_J3_checkIndex_8e157 : List (Nat × Instr × Nat × Nat) := [(0, .iload_n 0, 1, 1), (1, .ifCond .lt 8, 3, 4), (4, .iload_n 0, 1, 5), (5, .iload_n 1, 1, 6), (6, .if_icmp .lt 10, 3, 9), (9, .aload_n 2, 1, 10), (10, .iload_n 0, 1, 11), (11, .iload_n 1, 1, 12), (12, .invokestatic 95, 3, 15), (15, .athrow, 1, 16), (16, .iload_n 0, 1, 17), (17, .ireturn, 1, 18)]
theorem id_J3_checkIndex_8e157 : ∀ q ∈ it_J3_checkIndex_8e157, decode cJ3_checkIndex_8e157 q.1 = .ok (q.2.1, q.2.2.1) ∧ q.1 + q.2.2.1 = q.2.2.2 := by decide +kernel
theorem dc_J3_checkIndex_8e157 {pc : Nat} {i : Instr} {n pc' : Nat} (j : Nat) (h : it_J3_checkIndex_8e157[j]? = some (pc, i, n, pc')) : Dc cJ3_checkIndex_8e157 pc i n pc' := dc_of id_J3_checkIndex_8e157 j h
abbrev rm_J3_checkIndex_8e157 : Room := { frames := 0, cells := 0, slots := 0, locals := 0 }
def b_J3_checkIndex_8e157_0 (r2 : Option Nat)  (x0 : Int32) (x1 : Int32)   : Option (Int32) := (if x0 < 0 then none else (if x0 < x1 then some x0 else none))
set_option maxHeartbeats 4000000 in
set_option maxRecDepth 20000 in
theorem c_J3_checkIndex_8e157_0 {X : CX} {Ω : OM} (hX : CF X Ω RJ3 cJ3_checkIndex_8e157 3 (some .int) rm_J3_checkIndex_8e157) (hO : OKO Ω) (r2 : Option Nat)  (σ : MS)  (x0 : Int32) (x1 : Int32)    : GE X Ω 3 0 0 (emPI σ) 0 0 0 [(0, .int x0), (1, .int x1), (2, va_rf r2)] [] σ (b_J3_checkIndex_8e157_0 r2 x0 x1) := by
  unfold b_J3_checkIndex_8e157_0
  refine g_iload_n hX (dc_J3_checkIndex_8e157 0 rfl) rfl 0 rfl ?_
  refine g_if_lt (tgt := 9) hX (dc_J3_checkIndex_8e157 1 rfl) (by decide) (fun h3 => ?_) (fun h3 => ?_)
  · exact g_none
  · refine g_iload_n hX (dc_J3_checkIndex_8e157 2 rfl) rfl 0 rfl ?_
    refine g_iload_n hX (dc_J3_checkIndex_8e157 3 rfl) rfl 1 rfl ?_
    refine g_icmp_lt (tgt := 16) hX (dc_J3_checkIndex_8e157 4 rfl) (by decide) (fun h4 => ?_) (fun h4 => ?_)
    · refine g_iload_n hX (dc_J3_checkIndex_8e157 10 rfl) rfl 0 rfl ?_
      exact g_iret hX (dc_J3_checkIndex_8e157 11 rfl) rfl rfl (Nat.le_refl _) (Nat.le_refl _)
    · exact g_none
def f_J3_checkIndex_8e157 (x0 : Int32) (x1 : Int32) (r2 : Option Nat)  : Option (Int32) := b_J3_checkIndex_8e157_0 r2 x0 x1 
theorem con_J3_checkIndex_8e157 {Ω : OM} (hO : OKO Ω) (x0 : Int32) (x1 : Int32) (r2 : Option Nat) (σ : MS)  : Con Ω yJ3_checkIndex_8e157 cJ3_checkIndex_8e157 3 (some .int) rm_J3_checkIndex_8e157 (emPI σ) [.int x0, .int x1, va_rf r2] σ (f_J3_checkIndex_8e157 x0 x1 r2 ) := by
  cases r2
  all_goals exact con_ofF hO (by decide +kernel) (Nat.le_of_ble_eq_true rfl) rfl (fun X hX _ => c_J3_checkIndex_8e157_0 hX hO _  σ x0 x1)
def it_J0_checkIndex_df160 : List (Nat × Instr × Nat × Nat) := [(0, .iload_n 0, 1, 1), (1, .iload_n 1, 1, 2), (2, .getstatic 1053, 3, 5), (5, .invokestatic 1059, 3, 8), (8, .pop, 1, 9), (9, .return_, 1, 10)]
theorem id_J0_checkIndex_df160 : ∀ q ∈ it_J0_checkIndex_df160, decode cJ0_checkIndex_df160 q.1 = .ok (q.2.1, q.2.2.1) ∧ q.1 + q.2.2.1 = q.2.2.2 := by decide +kernel
theorem dc_J0_checkIndex_df160 {pc : Nat} {i : Instr} {n pc' : Nat} (j : Nat) (h : it_J0_checkIndex_df160[j]? = some (pc, i, n, pc')) : Dc cJ0_checkIndex_df160 pc i n pc' := dc_of id_J0_checkIndex_df160 j h
abbrev rm_J0_checkIndex_df160 : Room := { frames := 1, cells := 0, slots := 0, locals := 22 }
def b_J0_checkIndex_df160_0   (x0 : Int32) (x1 : Int32)   : Option (Unit) := (f_J3_checkIndex_8e157 x0 x1 none).bind (fun r4 => some ())
set_option maxHeartbeats 4000000 in
set_option maxRecDepth 20000 in
theorem c_J0_checkIndex_df160_0 {X : CX} {Ω : OM} (hX : CF X Ω RJ0 cJ0_checkIndex_df160 2 none rm_J0_checkIndex_df160) (hO : OKO Ω)   (σ : MS)  (x0 : Int32) (x1 : Int32)    : GE X Ω 2 0 0 (emPV σ) 0 0 0 [(0, .int x0), (1, .int x1)] [] σ (b_J0_checkIndex_df160_0  x0 x1) := by
  unfold b_J0_checkIndex_df160_0
  refine g_iload_n hX (dc_J0_checkIndex_df160 0 rfl) rfl 0 rfl ?_
  refine g_iload_n hX (dc_J0_checkIndex_df160 1 rfl) rfl 1 rfl ?_
  refine g_gSI hX (dc_J0_checkIndex_df160 2 rfl) wv_si (fun r3 => ?_)
  refine gS_PI (As := [.int x0, .int x1, va_rf r3]) (st := []) hX (dc_J0_checkIndex_df160 3 rfl) ml_J0_1059 (con_J3_checkIndex_8e157 hO x0 x1 r3 σ) rfl rfl ⟨by decide, by decide⟩ ⟨rfl, rfl⟩ ⟨Nat.zero_le _, Nat.zero_le _⟩ (Nat.le_of_ble_eq_true rfl) (fun r4 _ => ?_)
  refine g_pop hX (dc_J0_checkIndex_df160 4 rfl) rfl ?_
  exact g_vret hX (dc_J0_checkIndex_df160 5 rfl) rfl (Nat.le_refl _) (Nat.le_refl _)
def f_J0_checkIndex_df160 (x0 : Int32) (x1 : Int32)  : Option (Unit) := b_J0_checkIndex_df160_0  x0 x1 
theorem con_J0_checkIndex_df160 {Ω : OM} (hO : OKO Ω) (x0 : Int32) (x1 : Int32) (σ : MS)  : Con Ω yJ0_checkIndex_df160 cJ0_checkIndex_df160 2 none rm_J0_checkIndex_df160 (emPV σ) [.int x0, .int x1] σ (f_J0_checkIndex_df160 x0 x1 ) :=
  con_ofF hO (by decide +kernel) (Nat.le_of_ble_eq_true rfl) rfl (fun X hX _ => c_J0_checkIndex_df160_0 hX hO   σ x0 x1)
def it_J1_charAt_3b067 : List (Nat × Instr × Nat × Nat) := [(0, .iload_n 1, 1, 1), (1, .aload_n 0, 1, 2), (2, .arraylength, 1, 3), (3, .invokestatic 9, 3, 6), (6, .aload_n 0, 1, 7), (7, .iload_n 1, 1, 8), (8, .baload, 1, 9), (9, .sipush 255, 3, 12), (12, .iand, 1, 13), (13, .i2c, 1, 14), (14, .ireturn, 1, 15)]
theorem id_J1_charAt_3b067 : ∀ q ∈ it_J1_charAt_3b067, decode cJ1_charAt_3b067 q.1 = .ok (q.2.1, q.2.2.1) ∧ q.1 + q.2.2.1 = q.2.2.2 := by decide +kernel
theorem dc_J1_charAt_3b067 {pc : Nat} {i : Instr} {n pc' : Nat} (j : Nat) (h : it_J1_charAt_3b067[j]? = some (pc, i, n, pc')) : Dc cJ1_charAt_3b067 pc i n pc' := dc_of id_J1_charAt_3b067 j h
abbrev rm_J1_charAt_3b067 : Room := { frames := 2, cells := 0, slots := 0, locals := 43 }
def b_J1_charAt_3b067_0 (k0 : Nat)  (x1 : Int32)   : Option (Int32) := (f_J0_checkIndex_df160 x1 (Int32.ofNat (slen.getD k0 0))).bind (fun r3 => chk (inb x1 (slen.getD k0 0)) (some (((((sbyt.getD k0 []).getD (ix x1) 0) &&& (255 : Int32))).toUInt32 % 65536).toInt32))
set_option maxHeartbeats 4000000 in
set_option maxRecDepth 20000 in
theorem c_J1_charAt_3b067_0 {X : CX} {Ω : OM} (hX : CF X Ω RJ1 cJ1_charAt_3b067 2 (some .char) rm_J1_charAt_3b067) (hO : OKO Ω) (k0 : Nat) (hk0 : k0 < 23) (σ : MS)  (x1 : Int32)    : GE X Ω 2 0 0 (emPI σ) 0 0 0 [(0, .ref (1000200 + k0)), (1, .int x1)] [] σ (b_J1_charAt_3b067_0 k0 x1) := by
  unfold b_J1_charAt_3b067_0
  refine g_iload_n hX (dc_J1_charAt_3b067 0 rfl) rfl 1 rfl ?_
  refine g_aload_n hX (dc_J1_charAt_3b067 1 rfl) rfl 0 rfl ?_
  refine g_salen hX (dc_J1_charAt_3b067 2 rfl) hk0 ?_
  refine gS_PV (As := [.int x1, .int (Int32.ofNat (slen.getD k0 0))]) (st := []) hX (dc_J1_charAt_3b067 3 rfl) ml_J1_9 (con_J0_checkIndex_df160 hO x1 (Int32.ofNat (slen.getD k0 0)) σ) rfl rfl ⟨by decide, by decide⟩ ⟨rfl, rfl⟩ ⟨Nat.zero_le _, Nat.zero_le _⟩ (Nat.le_of_ble_eq_true rfl) (fun r3 _ => ?_)
  refine g_aload_n hX (dc_J1_charAt_3b067 4 rfl) rfl 0 rfl ?_
  refine g_iload_n hX (dc_J1_charAt_3b067 5 rfl) rfl 1 rfl ?_
  refine g_chk (fun hc4 => ?_)
  refine g_sald hX (dc_J1_charAt_3b067 6 rfl) hk0 hc4 ?_
  refine g_sipush (w := (255 : Int32)) hX (dc_J1_charAt_3b067 7 rfl) (by decide) ?_
  refine g_iand hX (dc_J1_charAt_3b067 8 rfl) ?_
  refine g_i2c hX (dc_J1_charAt_3b067 9 rfl) ?_
  exact g_iret hX (dc_J1_charAt_3b067 10 rfl) (pk_nc _) rfl (Nat.le_refl _) (Nat.le_refl _)
def f_J1_charAt_3b067 (k0 : Nat) (x1 : Int32)  : Option (Int32) := b_J1_charAt_3b067_0 k0 x1 
theorem con_J1_charAt_3b067 {Ω : OM} (hO : OKO Ω) (k0 : Nat) (x1 : Int32) (σ : MS) (hk0 : k0 < 23) : Con Ω yJ1_charAt_3b067 cJ1_charAt_3b067 2 (some .char) rm_J1_charAt_3b067 (emPI σ) [.ref (1000200 + k0), .int x1] σ (f_J1_charAt_3b067 k0 x1 ) :=
  con_ofF hO (by decide +kernel) (Nat.le_of_ble_eq_true rfl) rfl (fun X hX _ => c_J1_charAt_3b067_0 hX hO k0 hk0 σ x1)
def it_J0_charAt_5068e : List (Nat × Instr × Nat × Nat) := [(0, .aload_n 0, 1, 1), (1, .invokevirtual 492, 3, 4), (4, .ifCond .eq 12, 3, 7), (7, .aload_n 0, 1, 8), (8, .getfield 9, 3, 11), (11, .iload_n 1, 1, 12), (12, .invokestatic 495, 3, 15), (15, .ireturn, 1, 16), (16, .aload_n 0, 1, 17), (17, .getfield 9, 3, 20), (20, .iload_n 1, 1, 21), (21, .invokestatic 498, 3, 24), (24, .ireturn, 1, 25)]
theorem id_J0_charAt_5068e : ∀ q ∈ it_J0_charAt_5068e, decode cJ0_charAt_5068e q.1 = .ok (q.2.1, q.2.2.1) ∧ q.1 + q.2.2.1 = q.2.2.2 := by decide +kernel
theorem dc_J0_charAt_5068e {pc : Nat} {i : Instr} {n pc' : Nat} (j : Nat) (h : it_J0_charAt_5068e[j]? = some (pc, i, n, pc')) : Dc cJ0_charAt_5068e pc i n pc' := dc_of id_J0_charAt_5068e j h
abbrev rm_J0_charAt_5068e : Room := { frames := 3, cells := 0, slots := 0, locals := 64 }
def b_J0_charAt_5068e_0 (k0 : Nat)  (x1 : Int32)   : Option (Int32) := (f_J0_isLatin1_aae02 k0).bind (fun r5 => (if r5 = 0 then none else (f_J1_charAt_3b067 k0 x1).bind (fun r7 => chk (narrow .char (.int r7) = .int r7) (some r7))))
set_option maxHeartbeats 4000000 in
set_option maxRecDepth 20000 in
theorem c_J0_charAt_5068e_0 {X : CX} {Ω : OM} (hX : CF X Ω RJ0 cJ0_charAt_5068e 2 (some .char) rm_J0_charAt_5068e) (hO : OKO Ω) (k0 : Nat) (hk0 : k0 < 23) (σ : MS)  (x1 : Int32)    : GE X Ω 2 0 0 (emPI σ) 0 0 0 [(0, .ref (1000000 + k0)), (1, .int x1)] [] σ (b_J0_charAt_5068e_0 k0 x1) := by
  unfold b_J0_charAt_5068e_0
  refine g_aload_n hX (dc_J0_charAt_5068e 0 rfl) rfl 0 rfl ?_
  refine g_callT (As := []) (st := []) hX (dc_J0_charAt_5068e 1 rfl) ml_J0_492 ⟨wi_J0_isLatin1_aae02, ws_J0_isLatin1_aae02⟩ hk0 (con_J0_isLatin1_aae02 hO k0 σ hk0) rfl rfl ⟨by decide, by decide⟩ ⟨rfl, rfl⟩ ⟨Nat.zero_le _, Nat.zero_le _⟩ (Nat.le_of_ble_eq_true rfl) (fun r5 _ => ?_)
  refine g_if_eq (tgt := 16) hX (dc_J0_charAt_5068e 2 rfl) (by decide) (fun h6 => ?_) (fun h6 => ?_)
  · exact g_none
  · refine g_aload_n hX (dc_J0_charAt_5068e 3 rfl) rfl 0 rfl ?_
    refine g_sval hX (dc_J0_charAt_5068e 4 rfl) wv_val hk0 ?_
    refine g_iload_n hX (dc_J0_charAt_5068e 5 rfl) rfl 1 rfl ?_
    refine gS_PI (As := [.ref (1000200 + k0), .int x1]) (st := []) hX (dc_J0_charAt_5068e 6 rfl) ml_J0_495 (con_J1_charAt_3b067 hO k0 x1 σ hk0) rfl rfl ⟨by decide, by decide⟩ ⟨rfl, rfl⟩ ⟨Nat.zero_le _, Nat.zero_le _⟩ (Nat.le_of_ble_eq_true rfl) (fun r7 _ => ?_)
    refine g_chk (fun hc8 => ?_)
    exact g_iret hX (dc_J0_charAt_5068e 7 rfl) hc8 rfl (Nat.le_refl _) (Nat.le_refl _)
def f_J0_charAt_5068e (k0 : Nat) (x1 : Int32)  : Option (Int32) := b_J0_charAt_5068e_0 k0 x1 
theorem con_J0_charAt_5068e {Ω : OM} (hO : OKO Ω) (k0 : Nat) (x1 : Int32) (σ : MS) (hk0 : k0 < 23) : Con Ω yJ0_charAt_5068e cJ0_charAt_5068e 2 (some .char) rm_J0_charAt_5068e (emPI σ) [.ref (1000000 + k0), .int x1] σ (f_J0_charAt_5068e k0 x1 ) :=
  con_ofF hO (by decide +kernel) (Nat.le_of_ble_eq_true rfl) rfl (fun X hX _ => c_J0_charAt_5068e_0 hX hO k0 hk0 σ x1)
def it_X4_spells : List (Nat × Instr × Nat × Nat) := [(0, .iload_n 3, 1, 1), (1, .iload_n 2, 1, 2), (2, .isub, 1, 3), (3, .aload_n 0, 1, 4), (4, .getfield 15, 3, 7), (7, .aload_n 0, 1, 8), (8, .getfield 22, 3, 11), (11, .isub, 1, 12), (12, .if_icmp .eq 5, 3, 15), (15, .iconst 0, 1, 16), (16, .ireturn, 1, 17), (17, .iload_n 2, 1, 18), (18, .istore 4, 2, 20), (20, .iload 4, 2, 22), (22, .iload_n 3, 1, 23), (23, .if_icmp .ge 36, 3, 26), (26, .aload_n 1, 1, 27), (27, .iload 4, 2, 29), (29, .invokevirtual 68, 3, 32), (32, .aload_n 0, 1, 33), (33, .getfield 9, 3, 36), (36, .aload_n 0, 1, 37), (37, .getfield 22, 3, 40), (40, .iload 4, 2, 42), (42, .iadd, 1, 43), (43, .iload_n 2, 1, 44), (44, .isub, 1, 45), (45, .invokevirtual 30, 3, 48), (48, .if_icmp .eq 5, 3, 51), (51, .iconst 0, 1, 52), (52, .ireturn, 1, 53), (53, .iinc 4 1, 3, 56), (56, .goto (-36), 3, 59), (59, .iconst 1, 1, 60), (60, .ireturn, 1, 61)]
theorem id_X4_spells : ∀ q ∈ it_X4_spells, decode cX4_spells q.1 = .ok (q.2.1, q.2.2.1) ∧ q.1 + q.2.2.1 = q.2.2.2 := by decide +kernel
theorem dc_X4_spells {pc : Nat} {i : Instr} {n pc' : Nat} (j : Nat) (h : it_X4_spells[j]? = some (pc, i, n, pc')) : Dc cX4_spells pc i n pc' := dc_of id_X4_spells j h
abbrev rm_X4_spells : Room := { frames := 4, cells := 0, slots := 0, locals := 85 }
def b_X4_spells_20 (a0 : Nat) (k1 : Nat)  : Nat → Int32 → Int32 → Int32 → MS → Option (Int32)
  | 0, _, _, _, _ => none
  | n + 1, y2, y3, y4, σ => (if y3 ≤ y4 then some (1 : Int32) else (f_J0_charAt_5068e k1 y4).bind (fun r7 => (f_X9_byteAt (((sI σ a0 3) + y4) - y2) σ).bind (fun r8 => (if r7 = r8 then ((b_X4_spells_20 a0 k1 n) (y2) (y3) ((y4 + (1 : Int32))) σ) else some (0 : Int32)))))
set_option maxHeartbeats 4000000 in
set_option maxRecDepth 20000 in
theorem c_X4_spells_20 {X : CX} {Ω : OM} (hX : CF X Ω RX4 cX4_spells 5 (some .boolean) rm_X4_spells) (hO : OKO Ω) (hΩ : oSH Ω = SHX) (a0 : Nat) (k1 : Nat) (ha0 : sRt Ω a0 [(14, 0)]) (hk1 : k1 < 23) (σ : MS)  : ∀ (n : Nat) (y2 : Int32) (y3 : Int32) (y4 : Int32)  , GE X Ω 5 0 0 (emPI σ) 0 0 20 [(0, .ref a0), (1, .ref (1000000 + k1)), (2, .int y2), (3, .int y3), (4, .int y4)] [] σ (b_X4_spells_20 a0 k1 n y2 y3 y4 σ)
  | 0, _, _, _ => g_none
  | n + 1, y2, y3, y4 => by
    have hk20 := c_X4_spells_20 hX hO hΩ a0 k1 ha0 hk1 σ n
    unfold b_X4_spells_20
    refine g_iload hX (dc_X4_spells 13 rfl) 4 rfl ?_
    refine g_iload_n hX (dc_X4_spells 14 rfl) rfl 3 rfl ?_
    refine g_icmp_ge (tgt := 59) hX (dc_X4_spells 15 rfl) (by decide) (fun h6 => ?_) (fun h6 => ?_)
    · refine g_iconst (w := (1 : Int32)) hX (dc_X4_spells 33 rfl) (by decide) ?_
      exact g_iret hX (dc_X4_spells 34 rfl) rfl rfl (Nat.le_refl _) (Nat.le_refl _)
    · refine g_aload_n hX (dc_X4_spells 16 rfl) rfl 1 rfl ?_
      refine g_iload hX (dc_X4_spells 17 rfl) 4 rfl ?_
      refine g_callT (As := [.int y4]) (st := []) hX (dc_X4_spells 18 rfl) ml_X4_68 ⟨wi_J0_charAt_5068e, ws_J0_charAt_5068e⟩ hk1 (con_J0_charAt_5068e hO k1 y4 σ hk1) rfl rfl ⟨by decide, by decide⟩ ⟨rfl, rfl⟩ ⟨Nat.zero_le _, Nat.zero_le _⟩ (Nat.le_of_ble_eq_true rfl) (fun r7 _ => ?_)
      refine g_aload_n hX (dc_X4_spells 19 rfl) rfl 0 rfl ?_
      refine g_getF (q := 1) hX (dc_X4_spells 20 rfl) fl_X4_9 (by decide) rfl (ha0.tf 0 rfl) rfl ?_
      refine g_aload_n hX (dc_X4_spells 21 rfl) rfl 0 rfl ?_
      refine g_getI hX (dc_X4_spells 22 rfl) fl_X4_22 (by decide) rfl (ha0.tf 0 rfl) ?_
      refine g_iload hX (dc_X4_spells 23 rfl) 4 rfl ?_
      refine g_iadd hX (dc_X4_spells 24 rfl) ?_
      refine g_iload_n hX (dc_X4_spells 25 rfl) rfl 2 rfl ?_
      refine g_isub hX (dc_X4_spells 26 rfl) ?_
      refine gV_PI (As := [.int (((sI σ a0 3) + y4) - y2)]) (st := [.int r7]) hX (dc_X4_spells 27 rfl) ml_X4_30 (con_X9_byteAt hO hΩ (((sI σ a0 3) + y4) - y2) σ) (stS hΩ 1 rfl) rfl rfl ⟨by decide, by decide⟩ ⟨rfl, rfl⟩ ⟨Nat.zero_le _, Nat.zero_le _⟩ (Nat.le_of_ble_eq_true rfl) (fun r8 _ => ?_)
      refine g_icmp_eq (tgt := 53) hX (dc_X4_spells 28 rfl) (by decide) (fun h9 => ?_) (fun h9 => ?_)
      · refine g_iinc (w := (y4 + (1 : Int32))) (L' := [(4, .int (y4 + (1 : Int32))), (0, .ref a0), (1, .ref (1000000 + k1)), (2, .int y2), (3, .int y3)]) hX (dc_X4_spells 31 rfl) 4 rfl rfl (by decide) rfl ?_
        refine g_goto (tgt := 20) hX (dc_X4_spells 32 rfl) (by decide) ?_
        exact g_sub [1, 2, 3, 4, 0] rfl (hk20 (y2) (y3) ((y4 + (1 : Int32))) )
      · refine g_iconst (w := (0 : Int32)) hX (dc_X4_spells 29 rfl) (by decide) ?_
        exact g_iret hX (dc_X4_spells 30 rfl) rfl rfl (Nat.le_refl _) (Nat.le_refl _)
def b_X4_spells_0 (a0 : Nat) (k1 : Nat)  (x2 : Int32) (x3 : Int32)  (σ : MS) : Option (Int32) := (if (x3 - x2) = ((sI σ a0 1) - (sI σ a0 3)) then (b_X4_spells_20 a0 k1 FU (x2) (x3) (x2) σ) else some (0 : Int32))
set_option maxHeartbeats 4000000 in
set_option maxRecDepth 20000 in
theorem c_X4_spells_0 {X : CX} {Ω : OM} (hX : CF X Ω RX4 cX4_spells 5 (some .boolean) rm_X4_spells) (hO : OKO Ω) (hΩ : oSH Ω = SHX) (a0 : Nat) (k1 : Nat) (ha0 : sRt Ω a0 [(14, 0)]) (hk1 : k1 < 23) (σ : MS)  (x2 : Int32) (x3 : Int32)    : GE X Ω 5 0 0 (emPI σ) 0 0 0 [(0, .ref a0), (1, .ref (1000000 + k1)), (2, .int x2), (3, .int x3)] [] σ (b_X4_spells_0 a0 k1 x2 x3 σ) := by
  unfold b_X4_spells_0
  refine g_iload_n hX (dc_X4_spells 0 rfl) rfl 3 rfl ?_
  refine g_iload_n hX (dc_X4_spells 1 rfl) rfl 2 rfl ?_
  refine g_isub hX (dc_X4_spells 2 rfl) ?_
  refine g_aload_n hX (dc_X4_spells 3 rfl) rfl 0 rfl ?_
  refine g_getI hX (dc_X4_spells 4 rfl) fl_X4_15 (by decide) rfl (ha0.tf 0 rfl) ?_
  refine g_aload_n hX (dc_X4_spells 5 rfl) rfl 0 rfl ?_
  refine g_getI hX (dc_X4_spells 6 rfl) fl_X4_22 (by decide) rfl (ha0.tf 0 rfl) ?_
  refine g_isub hX (dc_X4_spells 7 rfl) ?_
  refine g_icmp_eq (tgt := 17) hX (dc_X4_spells 8 rfl) (by decide) (fun h10 => ?_) (fun h10 => ?_)
  · refine g_iload_n hX (dc_X4_spells 11 rfl) rfl 2 rfl ?_
    refine g_istore (L' := [(4, .int x2), (0, .ref a0), (1, .ref (1000000 + k1)), (2, .int x2), (3, .int x3)]) hX (dc_X4_spells 12 rfl) (by decide) rfl ?_
    exact g_sub [1, 2, 3, 4, 0] rfl (c_X4_spells_20 hX hO hΩ a0 k1 ha0 hk1 σ FU (x2) (x3) (x2))
  · refine g_iconst (w := (0 : Int32)) hX (dc_X4_spells 9 rfl) (by decide) ?_
    exact g_iret hX (dc_X4_spells 10 rfl) rfl rfl (Nat.le_refl _) (Nat.le_refl _)
def f_X4_spells (a0 : Nat) (k1 : Nat) (x2 : Int32) (x3 : Int32) (σ : MS) : Option (Int32) := b_X4_spells_0 a0 k1 x2 x3 σ
theorem con_X4_spells {Ω : OM} (hO : OKO Ω) (hΩ : oSH Ω = SHX) (a0 : Nat) (k1 : Nat) (x2 : Int32) (x3 : Int32) (σ : MS) (ha0 : sRt Ω a0 [(14, 0)]) (hk1 : k1 < 23) : Con Ω yX4_spells cX4_spells 5 (some .boolean) rm_X4_spells (emPI σ) [.ref a0, .ref (1000000 + k1), .int x2, .int x3] σ (f_X4_spells a0 k1 x2 x3 σ) :=
  con_of hO (by decide +kernel) (Nat.le_of_ble_eq_true rfl) rfl (fun X hX _ => c_X4_spells_0 hX hO hΩ a0 k1 ha0 hk1 σ x2 x3)
def it_X4_wordAmong : List (Nat × Instr × Nat × Nat) := [(0, .aload_n 0, 1, 1), (1, .getfield 34, 3, 4), (4, .iconst 2, 1, 5), (5, .if_icmp .eq 5, 3, 8), (8, .iconst (-1), 1, 9), (9, .ireturn, 1, 10), (10, .iconst 0, 1, 11), (11, .istore_n 2, 1, 12), (12, .iconst 0, 1, 13), (13, .istore_n 3, 1, 14), (14, .iconst 0, 1, 15), (15, .istore 4, 2, 17), (17, .iload 4, 2, 19), (19, .aload_n 1, 1, 20), (20, .invokevirtual 63, 3, 23), (23, .if_icmp .gt 50, 3, 26), (26, .iload 4, 2, 28), (28, .aload_n 1, 1, 29), (29, .invokevirtual 63, 3, 32), (32, .if_icmp .eq 14, 3, 35), (35, .aload_n 1, 1, 36), (36, .iload 4, 2, 38), (38, .invokevirtual 68, 3, 41), (41, .bipush 32, 2, 43), (43, .if_icmp .ne 24, 3, 46), (46, .aload_n 0, 1, 47), (47, .aload_n 1, 1, 48), (48, .iload_n 3, 1, 49), (49, .iload 4, 2, 51), (51, .invokevirtual 72, 3, 54), (54, .ifCond .eq 5, 3, 57), (57, .iload_n 2, 1, 58), (58, .ireturn, 1, 59), (59, .iinc 2 1, 3, 62), (62, .iload 4, 2, 64), (64, .iconst 1, 1, 65), (65, .iadd, 1, 66), (66, .istore_n 3, 1, 67), (67, .iinc 4 1, 3, 70), (70, .goto (-53), 3, 73), (73, .iconst (-1), 1, 74), (74, .ireturn, 1, 75)]
theorem id_X4_wordAmong : ∀ q ∈ it_X4_wordAmong, decode cX4_wordAmong q.1 = .ok (q.2.1, q.2.2.1) ∧ q.1 + q.2.2.1 = q.2.2.2 := by decide +kernel
theorem dc_X4_wordAmong {pc : Nat} {i : Instr} {n pc' : Nat} (j : Nat) (h : it_X4_wordAmong[j]? = some (pc, i, n, pc')) : Dc cX4_wordAmong pc i n pc' := dc_of id_X4_wordAmong j h
abbrev rm_X4_wordAmong : Room := { frames := 5, cells := 0, slots := 0, locals := 109 }
def b_X4_wordAmong_67 (a0 : Nat) (k1 : Nat) (k17 : Int32 → Int32 → Int32 → MS → Option (Int32))  (y2 : Int32) (y3 : Int32) (y4 : Int32) (σ : MS) : Option (Int32) := (k17 (y2) (y3) ((y4 + (1 : Int32))) σ)
set_option maxHeartbeats 4000000 in
set_option maxRecDepth 20000 in
theorem c_X4_wordAmong_67 {X : CX} {Ω : OM} (hX : CF X Ω RX4 cX4_wordAmong 5 (some .int) rm_X4_wordAmong) (hO : OKO Ω) (hΩ : oSH Ω = SHX) (a0 : Nat) (k1 : Nat) (ha0 : sRt Ω a0 [(14, 0)]) (hk1 : k1 < 23) (σ : MS) (k17 : Int32 → Int32 → Int32 → MS → Option (Int32)) (hk17 : ∀ (y2 : Int32) (y3 : Int32) (y4 : Int32), GE X Ω 5 0 0 (emPI σ) 0 0 17 [(0, .ref a0), (1, .ref (1000000 + k1)), (2, .int y2), (3, .int y3), (4, .int y4)] [] σ (k17 y2 y3 y4 σ))  (y2 : Int32) (y3 : Int32) (y4 : Int32)   : GE X Ω 5 0 0 (emPI σ) 0 0 67 [(0, .ref a0), (1, .ref (1000000 + k1)), (2, .int y2), (3, .int y3), (4, .int y4)] [] σ (b_X4_wordAmong_67 a0 k1 k17 y2 y3 y4 σ) := by
  unfold b_X4_wordAmong_67
  refine g_iinc (w := (y4 + (1 : Int32))) (L' := [(4, .int (y4 + (1 : Int32))), (0, .ref a0), (1, .ref (1000000 + k1)), (2, .int y2), (3, .int y3)]) hX (dc_X4_wordAmong 38 rfl) 4 rfl rfl (by decide) rfl ?_
  refine g_goto (tgt := 17) hX (dc_X4_wordAmong 39 rfl) (by decide) ?_
  exact g_sub [1, 2, 3, 4, 0] rfl (hk17 (y2) (y3) ((y4 + (1 : Int32))) )
def b_X4_wordAmong_46 (a0 : Nat) (k1 : Nat) (k17 : Int32 → Int32 → Int32 → MS → Option (Int32))  (y2 : Int32) (y3 : Int32) (y4 : Int32) (σ : MS) : Option (Int32) := (f_X4_spells a0 k1 y3 y4 σ).bind (fun r10 => (if r10 = 0 then (b_X4_wordAmong_67 a0 k1 k17 ((y2 + (1 : Int32))) ((y4 + (1 : Int32))) (y4) σ) else some y2))
set_option maxHeartbeats 4000000 in
set_option maxRecDepth 20000 in
theorem c_X4_wordAmong_46 {X : CX} {Ω : OM} (hX : CF X Ω RX4 cX4_wordAmong 5 (some .int) rm_X4_wordAmong) (hO : OKO Ω) (hΩ : oSH Ω = SHX) (a0 : Nat) (k1 : Nat) (ha0 : sRt Ω a0 [(14, 0)]) (hk1 : k1 < 23) (σ : MS) (k17 : Int32 → Int32 → Int32 → MS → Option (Int32)) (hk17 : ∀ (y2 : Int32) (y3 : Int32) (y4 : Int32), GE X Ω 5 0 0 (emPI σ) 0 0 17 [(0, .ref a0), (1, .ref (1000000 + k1)), (2, .int y2), (3, .int y3), (4, .int y4)] [] σ (k17 y2 y3 y4 σ))  (y2 : Int32) (y3 : Int32) (y4 : Int32)   : GE X Ω 5 0 0 (emPI σ) 0 0 46 [(0, .ref a0), (1, .ref (1000000 + k1)), (2, .int y2), (3, .int y3), (4, .int y4)] [] σ (b_X4_wordAmong_46 a0 k1 k17 y2 y3 y4 σ) := by
  unfold b_X4_wordAmong_46
  refine g_aload_n hX (dc_X4_wordAmong 25 rfl) rfl 0 rfl ?_
  refine g_aload_n hX (dc_X4_wordAmong 26 rfl) rfl 1 rfl ?_
  refine g_iload_n hX (dc_X4_wordAmong 27 rfl) rfl 3 rfl ?_
  refine g_iload hX (dc_X4_wordAmong 28 rfl) 4 rfl ?_
  refine gV_PI (As := [.ref (1000000 + k1), .int y3, .int y4]) (st := []) hX (dc_X4_wordAmong 29 rfl) ml_X4_72 (con_X4_spells hO hΩ a0 k1 y3 y4 σ ha0 hk1) (ha0.tf 0 rfl) rfl rfl ⟨by decide, by decide⟩ ⟨rfl, rfl⟩ ⟨Nat.zero_le _, Nat.zero_le _⟩ (Nat.le_of_ble_eq_true rfl) (fun r10 _ => ?_)
  refine g_if_eq (tgt := 59) hX (dc_X4_wordAmong 30 rfl) (by decide) (fun h11 => ?_) (fun h11 => ?_)
  · refine g_iinc (w := (y2 + (1 : Int32))) (L' := [(2, .int (y2 + (1 : Int32))), (0, .ref a0), (1, .ref (1000000 + k1)), (3, .int y3), (4, .int y4)]) hX (dc_X4_wordAmong 33 rfl) 2 rfl rfl (by decide) rfl ?_
    refine g_iload hX (dc_X4_wordAmong 34 rfl) 4 rfl ?_
    refine g_iconst (w := (1 : Int32)) hX (dc_X4_wordAmong 35 rfl) (by decide) ?_
    refine g_iadd hX (dc_X4_wordAmong 36 rfl) ?_
    refine g_istore_n (L' := [(3, .int (y4 + (1 : Int32))), (2, .int (y2 + (1 : Int32))), (0, .ref a0), (1, .ref (1000000 + k1)), (4, .int y4)]) hX (dc_X4_wordAmong 37 rfl) rfl (by decide) rfl ?_
    exact g_sub [2, 3, 1, 0, 4] rfl (c_X4_wordAmong_67 hX hO hΩ a0 k1 ha0 hk1 σ _ hk17 ((y2 + (1 : Int32))) ((y4 + (1 : Int32))) (y4))
  · refine g_iload_n hX (dc_X4_wordAmong 31 rfl) rfl 2 rfl ?_
    exact g_iret hX (dc_X4_wordAmong 32 rfl) rfl rfl (Nat.le_refl _) (Nat.le_refl _)
def b_X4_wordAmong_17 (a0 : Nat) (k1 : Nat)  : Nat → Int32 → Int32 → Int32 → MS → Option (Int32)
  | 0, _, _, _, _ => none
  | n + 1, y2, y3, y4, σ => (f_J0_length_8abf5 k1).bind (fun r12 => (if r12 < y4 then some (-1 : Int32) else (f_J0_length_8abf5 k1).bind (fun r14 => (if y4 = r14 then (b_X4_wordAmong_46 a0 k1 (b_X4_wordAmong_17 a0 k1 n) (y2) (y3) (y4) σ) else (f_J0_charAt_5068e k1 y4).bind (fun r16 => (if r16 = (32 : Int32) then (b_X4_wordAmong_46 a0 k1 (b_X4_wordAmong_17 a0 k1 n) (y2) (y3) (y4) σ) else (b_X4_wordAmong_67 a0 k1 (b_X4_wordAmong_17 a0 k1 n) (y2) (y3) (y4) σ)))))))
set_option maxHeartbeats 4000000 in
set_option maxRecDepth 20000 in
theorem c_X4_wordAmong_17 {X : CX} {Ω : OM} (hX : CF X Ω RX4 cX4_wordAmong 5 (some .int) rm_X4_wordAmong) (hO : OKO Ω) (hΩ : oSH Ω = SHX) (a0 : Nat) (k1 : Nat) (ha0 : sRt Ω a0 [(14, 0)]) (hk1 : k1 < 23) (σ : MS)  : ∀ (n : Nat) (y2 : Int32) (y3 : Int32) (y4 : Int32)  , GE X Ω 5 0 0 (emPI σ) 0 0 17 [(0, .ref a0), (1, .ref (1000000 + k1)), (2, .int y2), (3, .int y3), (4, .int y4)] [] σ (b_X4_wordAmong_17 a0 k1 n y2 y3 y4 σ)
  | 0, _, _, _ => g_none
  | n + 1, y2, y3, y4 => by
    have hk17 := c_X4_wordAmong_17 hX hO hΩ a0 k1 ha0 hk1 σ n
    unfold b_X4_wordAmong_17
    refine g_iload hX (dc_X4_wordAmong 12 rfl) 4 rfl ?_
    refine g_aload_n hX (dc_X4_wordAmong 13 rfl) rfl 1 rfl ?_
    refine g_callT (As := []) (st := [.int y4]) hX (dc_X4_wordAmong 14 rfl) ml_X4_63 ⟨wi_J0_length_8abf5, ws_J0_length_8abf5⟩ hk1 (con_J0_length_8abf5 hO k1 σ hk1) rfl rfl ⟨by decide, by decide⟩ ⟨rfl, rfl⟩ ⟨Nat.zero_le _, Nat.zero_le _⟩ (Nat.le_of_ble_eq_true rfl) (fun r12 _ => ?_)
    refine g_icmp_gt (tgt := 73) hX (dc_X4_wordAmong 15 rfl) (by decide) (fun h13 => ?_) (fun h13 => ?_)
    · refine g_iconst (w := (-1 : Int32)) hX (dc_X4_wordAmong 40 rfl) (by decide) ?_
      exact g_iret hX (dc_X4_wordAmong 41 rfl) rfl rfl (Nat.le_refl _) (Nat.le_refl _)
    · refine g_iload hX (dc_X4_wordAmong 16 rfl) 4 rfl ?_
      refine g_aload_n hX (dc_X4_wordAmong 17 rfl) rfl 1 rfl ?_
      refine g_callT (As := []) (st := [.int y4]) hX (dc_X4_wordAmong 18 rfl) ml_X4_63 ⟨wi_J0_length_8abf5, ws_J0_length_8abf5⟩ hk1 (con_J0_length_8abf5 hO k1 σ hk1) rfl rfl ⟨by decide, by decide⟩ ⟨rfl, rfl⟩ ⟨Nat.zero_le _, Nat.zero_le _⟩ (Nat.le_of_ble_eq_true rfl) (fun r14 _ => ?_)
      refine g_icmp_eq (tgt := 46) hX (dc_X4_wordAmong 19 rfl) (by decide) (fun h15 => ?_) (fun h15 => ?_)
      · exact g_sub [0, 1, 2, 3, 4] rfl (c_X4_wordAmong_46 hX hO hΩ a0 k1 ha0 hk1 σ _ hk17 (y2) (y3) (y4))
      · refine g_aload_n hX (dc_X4_wordAmong 20 rfl) rfl 1 rfl ?_
        refine g_iload hX (dc_X4_wordAmong 21 rfl) 4 rfl ?_
        refine g_callT (As := [.int y4]) (st := []) hX (dc_X4_wordAmong 22 rfl) ml_X4_68 ⟨wi_J0_charAt_5068e, ws_J0_charAt_5068e⟩ hk1 (con_J0_charAt_5068e hO k1 y4 σ hk1) rfl rfl ⟨by decide, by decide⟩ ⟨rfl, rfl⟩ ⟨Nat.zero_le _, Nat.zero_le _⟩ (Nat.le_of_ble_eq_true rfl) (fun r16 _ => ?_)
        refine g_bipush (w := (32 : Int32)) hX (dc_X4_wordAmong 23 rfl) (by decide) ?_
        refine g_icmp_ne (tgt := 67) hX (dc_X4_wordAmong 24 rfl) (by decide) (fun h17 => ?_) (fun h17 => ?_)
        · exact g_sub [0, 1, 2, 3, 4] rfl (c_X4_wordAmong_46 hX hO hΩ a0 k1 ha0 hk1 σ _ hk17 (y2) (y3) (y4))
        · exact g_sub [0, 1, 2, 3, 4] rfl (c_X4_wordAmong_67 hX hO hΩ a0 k1 ha0 hk1 σ _ hk17 (y2) (y3) (y4))
def b_X4_wordAmong_0 (a0 : Nat) (k1 : Nat)    (σ : MS) : Option (Int32) := (if (sI σ a0 2) = (2 : Int32) then (b_X4_wordAmong_17 a0 k1 FU ((0 : Int32)) ((0 : Int32)) ((0 : Int32)) σ) else some (-1 : Int32))
set_option maxHeartbeats 4000000 in
set_option maxRecDepth 20000 in
theorem c_X4_wordAmong_0 {X : CX} {Ω : OM} (hX : CF X Ω RX4 cX4_wordAmong 5 (some .int) rm_X4_wordAmong) (hO : OKO Ω) (hΩ : oSH Ω = SHX) (a0 : Nat) (k1 : Nat) (ha0 : sRt Ω a0 [(14, 0)]) (hk1 : k1 < 23) (σ : MS)      : GE X Ω 5 0 0 (emPI σ) 0 0 0 [(0, .ref a0), (1, .ref (1000000 + k1))] [] σ (b_X4_wordAmong_0 a0 k1 σ) := by
  unfold b_X4_wordAmong_0
  refine g_aload_n hX (dc_X4_wordAmong 0 rfl) rfl 0 rfl ?_
  refine g_getI hX (dc_X4_wordAmong 1 rfl) fl_X4_34 (by decide) rfl (ha0.tf 0 rfl) ?_
  refine g_iconst (w := (2 : Int32)) hX (dc_X4_wordAmong 2 rfl) (by decide) ?_
  refine g_icmp_eq (tgt := 10) hX (dc_X4_wordAmong 3 rfl) (by decide) (fun h18 => ?_) (fun h18 => ?_)
  · refine g_iconst (w := (0 : Int32)) hX (dc_X4_wordAmong 6 rfl) (by decide) ?_
    refine g_istore_n (L' := [(2, .int (0 : Int32)), (0, .ref a0), (1, .ref (1000000 + k1))]) hX (dc_X4_wordAmong 7 rfl) rfl (by decide) rfl ?_
    refine g_iconst (w := (0 : Int32)) hX (dc_X4_wordAmong 8 rfl) (by decide) ?_
    refine g_istore_n (L' := [(3, .int (0 : Int32)), (2, .int (0 : Int32)), (0, .ref a0), (1, .ref (1000000 + k1))]) hX (dc_X4_wordAmong 9 rfl) rfl (by decide) rfl ?_
    refine g_iconst (w := (0 : Int32)) hX (dc_X4_wordAmong 10 rfl) (by decide) ?_
    refine g_istore (L' := [(4, .int (0 : Int32)), (3, .int (0 : Int32)), (2, .int (0 : Int32)), (0, .ref a0), (1, .ref (1000000 + k1))]) hX (dc_X4_wordAmong 11 rfl) (by decide) rfl ?_
    exact g_sub [3, 4, 2, 1, 0] rfl (c_X4_wordAmong_17 hX hO hΩ a0 k1 ha0 hk1 σ FU ((0 : Int32)) ((0 : Int32)) ((0 : Int32)))
  · refine g_iconst (w := (-1 : Int32)) hX (dc_X4_wordAmong 4 rfl) (by decide) ?_
    exact g_iret hX (dc_X4_wordAmong 5 rfl) rfl rfl (Nat.le_refl _) (Nat.le_refl _)
def f_X4_wordAmong (a0 : Nat) (k1 : Nat) (σ : MS) : Option (Int32) := b_X4_wordAmong_0 a0 k1  σ
theorem con_X4_wordAmong {Ω : OM} (hO : OKO Ω) (hΩ : oSH Ω = SHX) (a0 : Nat) (k1 : Nat) (σ : MS) (ha0 : sRt Ω a0 [(14, 0)]) (hk1 : k1 < 23) : Con Ω yX4_wordAmong cX4_wordAmong 5 (some .int) rm_X4_wordAmong (emPI σ) [.ref a0, .ref (1000000 + k1)] σ (f_X4_wordAmong a0 k1 σ) :=
  con_of hO (by decide +kernel) (Nat.le_of_ble_eq_true rfl) rfl (fun X hX _ => c_X4_wordAmong_0 hX hO hΩ a0 k1 ha0 hk1 σ )
def it_X4_fail : List (Nat × Instr × Nat × Nat) := [(0, .aload_n 0, 1, 1), (1, .getfield 19, 3, 4), (4, .ifCond .ne 18, 3, 7), (7, .aload_n 0, 1, 8), (8, .iconst 1, 1, 9), (9, .bipush 8, 2, 11), (11, .aload_n 0, 1, 12), (12, .getfield 22, 3, 15), (15, .imul, 1, 16), (16, .iadd, 1, 17), (17, .iload_n 1, 1, 18), (18, .iadd, 1, 19), (19, .putfield 19, 3, 22), (22, .return_, 1, 23)]
theorem id_X4_fail : ∀ q ∈ it_X4_fail, decode cX4_fail q.1 = .ok (q.2.1, q.2.2.1) ∧ q.1 + q.2.2.1 = q.2.2.2 := by decide +kernel
theorem dc_X4_fail {pc : Nat} {i : Instr} {n pc' : Nat} (j : Nat) (h : it_X4_fail[j]? = some (pc, i, n, pc')) : Dc cX4_fail pc i n pc' := dc_of id_X4_fail j h
abbrev rm_X4_fail : Room := { frames := 0, cells := 0, slots := 0, locals := 0 }
def b_X4_fail_22 (a0 : Nat)    (σ : MS) : Option (MS) := some (σ)
set_option maxHeartbeats 4000000 in
set_option maxRecDepth 20000 in
theorem c_X4_fail_22 {X : CX} {Ω : OM} (hX : CF X Ω RX4 cX4_fail 2 none rm_X4_fail) (hO : OKO Ω) (hΩ : oSH Ω = SHX) (a0 : Nat) (ha0 : sRt Ω a0 [(14, 0)])    (σ : MS)  : GE X Ω 2 0 0 (emWV) 0 0 22 [] [] σ (b_X4_fail_22 a0 σ) := by
  unfold b_X4_fail_22
  exact g_vret hX (dc_X4_fail 13 rfl) rfl (Nat.le_refl _) (Nat.le_refl _)
def b_X4_fail_0 (a0 : Nat)  (x1 : Int32)  (σ : MS) : Option (MS) := (if (sI σ a0 6) = 0 then (b_X4_fail_22 a0 (wI σ a0 6 (((1 : Int32) + ((8 : Int32) * (sI σ a0 3))) + x1))) else (b_X4_fail_22 a0 σ))
set_option maxHeartbeats 4000000 in
set_option maxRecDepth 20000 in
theorem c_X4_fail_0 {X : CX} {Ω : OM} (hX : CF X Ω RX4 cX4_fail 2 none rm_X4_fail) (hO : OKO Ω) (hΩ : oSH Ω = SHX) (a0 : Nat) (ha0 : sRt Ω a0 [(14, 0)])  (x1 : Int32)  (σ : MS)  : GE X Ω 2 0 0 (emWV) 0 0 0 [(0, .ref a0), (1, .int x1)] [] σ (b_X4_fail_0 a0 x1 σ) := by
  unfold b_X4_fail_0
  refine g_aload_n hX (dc_X4_fail 0 rfl) rfl 0 rfl ?_
  refine g_getI hX (dc_X4_fail 1 rfl) fl_X4_19 (by decide) rfl (ha0.tf 0 rfl) ?_
  refine g_if_ne (tgt := 22) hX (dc_X4_fail 2 rfl) (by decide) (fun h2 => ?_) (fun h2 => ?_)
  · refine g_aload_n hX (dc_X4_fail 3 rfl) rfl 0 rfl ?_
    refine g_iconst (w := (1 : Int32)) hX (dc_X4_fail 4 rfl) (by decide) ?_
    refine g_bipush (w := (8 : Int32)) hX (dc_X4_fail 5 rfl) (by decide) ?_
    refine g_aload_n hX (dc_X4_fail 6 rfl) rfl 0 rfl ?_
    refine g_getI hX (dc_X4_fail 7 rfl) fl_X4_22 (by decide) rfl (ha0.tf 0 rfl) ?_
    refine g_imul hX (dc_X4_fail 8 rfl) ?_
    refine g_iadd hX (dc_X4_fail 9 rfl) ?_
    refine g_iload_n hX (dc_X4_fail 10 rfl) rfl 1 rfl ?_
    refine g_iadd hX (dc_X4_fail 11 rfl) ?_
    refine g_putI (raw := false) hX (dc_X4_fail 12 rfl) fl_X4_19 (by decide) ⟨rfl, rfl⟩ ⟨rfl, rfl⟩ (ha0.tf 0 rfl) ?_
    exact g_sub [] rfl (c_X4_fail_22 hX hO hΩ a0 ha0 (wI σ a0 6 (((1 : Int32) + ((8 : Int32) * (sI σ a0 3))) + x1)))
  · exact g_sub [] rfl (c_X4_fail_22 hX hO hΩ a0 ha0 σ)
def f_X4_fail (a0 : Nat) (x1 : Int32) (σ : MS) : Option (MS) := b_X4_fail_0 a0 x1 σ
theorem con_X4_fail {Ω : OM} (hO : OKO Ω) (hΩ : oSH Ω = SHX) (a0 : Nat) (x1 : Int32) (σ : MS) (ha0 : sRt Ω a0 [(14, 0)]) : Con Ω yX4_fail cX4_fail 2 none rm_X4_fail (emWV) [.ref a0, .int x1] σ (f_X4_fail a0 x1 σ) :=
  con_of hO (by decide +kernel) (Nat.le_of_ble_eq_true rfl) rfl (fun X hX _ => c_X4_fail_0 hX hO hΩ a0 ha0 x1 σ )
def it_X2_canStand : List (Nat × Instr × Nat × Nat) := [(0, .iload_n 1, 1, 1), (1, .tableswitch 129 0 3 #[31, 47, 74, 101], 31, 32), (32, .aload_n 0, 1, 33), (33, .getfield 12, 3, 36), (36, .getfield 86, 3, 39), (39, .ifCond .ne 7, 3, 42), (42, .iconst 1, 1, 43), (43, .goto 4, 3, 46), (46, .iconst 0, 1, 47), (47, .ireturn, 1, 48), (48, .aload_n 0, 1, 49), (49, .getfield 12, 3, 52), (52, .getfield 86, 3, 55), (55, .ifCond .eq 18, 3, 58), (58, .aload_n 0, 1, 59), (59, .getfield 12, 3, 62), (62, .getfield 90, 3, 65), (65, .iconst 5, 1, 66), (66, .if_icmp .ge 7, 3, 69), (69, .iconst 1, 1, 70), (70, .goto 4, 3, 73), (73, .iconst 0, 1, 74), (74, .ireturn, 1, 75), (75, .aload_n 0, 1, 76), (76, .getfield 12, 3, 79), (79, .getfield 86, 3, 82), (82, .ifCond .eq 18, 3, 85), (85, .aload_n 0, 1, 86), (86, .getfield 12, 3, 89), (89, .getfield 93, 3, 92), (92, .iconst 4, 1, 93), (93, .if_icmp .ge 7, 3, 96), (96, .iconst 1, 1, 97), (97, .goto 4, 3, 100), (100, .iconst 0, 1, 101), (101, .ireturn, 1, 102), (102, .aload_n 0, 1, 103), (103, .getfield 12, 3, 106), (106, .getfield 86, 3, 109), (109, .ifCond .eq 19, 3, 112), (112, .aload_n 0, 1, 113), (113, .getfield 12, 3, 116), (116, .getfield 96, 3, 119), (119, .bipush 6, 2, 121), (121, .if_icmp .ge 7, 3, 124), (124, .iconst 1, 1, 125), (125, .goto 4, 3, 128), (128, .iconst 0, 1, 129), (129, .ireturn, 1, 130), (130, .aload_n 0, 1, 131), (131, .getfield 12, 3, 134), (134, .getfield 86, 3, 137), (137, .ireturn, 1, 138)]
theorem id_X2_canStand : ∀ q ∈ it_X2_canStand, decode cX2_canStand q.1 = .ok (q.2.1, q.2.2.1) ∧ q.1 + q.2.2.1 = q.2.2.2 := by decide +kernel
theorem dc_X2_canStand {pc : Nat} {i : Instr} {n pc' : Nat} (j : Nat) (h : it_X2_canStand[j]? = some (pc, i, n, pc')) : Dc cX2_canStand pc i n pc' := dc_of id_X2_canStand j h
abbrev rm_X2_canStand : Room := { frames := 0, cells := 0, slots := 0, locals := 0 }
def b_X2_canStand_129    (s0 : Int32) (σ : MS) : Option (Int32) := chk (s0 = 0 ∨ s0 = 1) (some s0)
set_option maxHeartbeats 4000000 in
set_option maxRecDepth 20000 in
theorem c_X2_canStand_129 {X : CX} {Ω : OM} (hX : CF X Ω RX2 cX2_canStand 2 (some .boolean) rm_X2_canStand) (hO : OKO Ω) (hΩ : oSH Ω = SHX)   (σ : MS)   (s0 : Int32)   : GE X Ω 2 0 0 (emPI σ) 0 0 129 [] [.int s0] σ (b_X2_canStand_129  s0 σ) := by
  unfold b_X2_canStand_129
  refine g_chk (fun hc17 => ?_)
  exact g_iret hX (dc_X2_canStand 48 rfl) (nz_bool hc17).1 rfl (Nat.le_refl _) (Nat.le_refl _)
def b_X2_canStand_128     (σ : MS) : Option (Int32) := (b_X2_canStand_129 ((0 : Int32)) σ)
set_option maxHeartbeats 4000000 in
set_option maxRecDepth 20000 in
theorem c_X2_canStand_128 {X : CX} {Ω : OM} (hX : CF X Ω RX2 cX2_canStand 2 (some .boolean) rm_X2_canStand) (hO : OKO Ω) (hΩ : oSH Ω = SHX)   (σ : MS)      : GE X Ω 2 0 0 (emPI σ) 0 0 128 [] [] σ (b_X2_canStand_128  σ) := by
  unfold b_X2_canStand_128
  refine g_iconst (w := (0 : Int32)) hX (dc_X2_canStand 47 rfl) (by decide) ?_
  exact g_sub [] rfl (c_X2_canStand_129 hX hO hΩ σ ((0 : Int32)))
def b_X2_canStand_101    (s0 : Int32) (σ : MS) : Option (Int32) := chk (s0 = 0 ∨ s0 = 1) (some s0)
set_option maxHeartbeats 4000000 in
set_option maxRecDepth 20000 in
theorem c_X2_canStand_101 {X : CX} {Ω : OM} (hX : CF X Ω RX2 cX2_canStand 2 (some .boolean) rm_X2_canStand) (hO : OKO Ω) (hΩ : oSH Ω = SHX)   (σ : MS)   (s0 : Int32)   : GE X Ω 2 0 0 (emPI σ) 0 0 101 [] [.int s0] σ (b_X2_canStand_101  s0 σ) := by
  unfold b_X2_canStand_101
  refine g_chk (fun hc18 => ?_)
  exact g_iret hX (dc_X2_canStand 35 rfl) (nz_bool hc18).1 rfl (Nat.le_refl _) (Nat.le_refl _)
def b_X2_canStand_100     (σ : MS) : Option (Int32) := (b_X2_canStand_101 ((0 : Int32)) σ)
set_option maxHeartbeats 4000000 in
set_option maxRecDepth 20000 in
theorem c_X2_canStand_100 {X : CX} {Ω : OM} (hX : CF X Ω RX2 cX2_canStand 2 (some .boolean) rm_X2_canStand) (hO : OKO Ω) (hΩ : oSH Ω = SHX)   (σ : MS)      : GE X Ω 2 0 0 (emPI σ) 0 0 100 [] [] σ (b_X2_canStand_100  σ) := by
  unfold b_X2_canStand_100
  refine g_iconst (w := (0 : Int32)) hX (dc_X2_canStand 34 rfl) (by decide) ?_
  exact g_sub [] rfl (c_X2_canStand_101 hX hO hΩ σ ((0 : Int32)))
def b_X2_canStand_74    (s0 : Int32) (σ : MS) : Option (Int32) := chk (s0 = 0 ∨ s0 = 1) (some s0)
set_option maxHeartbeats 4000000 in
set_option maxRecDepth 20000 in
theorem c_X2_canStand_74 {X : CX} {Ω : OM} (hX : CF X Ω RX2 cX2_canStand 2 (some .boolean) rm_X2_canStand) (hO : OKO Ω) (hΩ : oSH Ω = SHX)   (σ : MS)   (s0 : Int32)   : GE X Ω 2 0 0 (emPI σ) 0 0 74 [] [.int s0] σ (b_X2_canStand_74  s0 σ) := by
  unfold b_X2_canStand_74
  refine g_chk (fun hc19 => ?_)
  exact g_iret hX (dc_X2_canStand 22 rfl) (nz_bool hc19).1 rfl (Nat.le_refl _) (Nat.le_refl _)
def b_X2_canStand_73     (σ : MS) : Option (Int32) := (b_X2_canStand_74 ((0 : Int32)) σ)
set_option maxHeartbeats 4000000 in
set_option maxRecDepth 20000 in
theorem c_X2_canStand_73 {X : CX} {Ω : OM} (hX : CF X Ω RX2 cX2_canStand 2 (some .boolean) rm_X2_canStand) (hO : OKO Ω) (hΩ : oSH Ω = SHX)   (σ : MS)      : GE X Ω 2 0 0 (emPI σ) 0 0 73 [] [] σ (b_X2_canStand_73  σ) := by
  unfold b_X2_canStand_73
  refine g_iconst (w := (0 : Int32)) hX (dc_X2_canStand 21 rfl) (by decide) ?_
  exact g_sub [] rfl (c_X2_canStand_74 hX hO hΩ σ ((0 : Int32)))
def b_X2_canStand_47    (s0 : Int32) (σ : MS) : Option (Int32) := chk (s0 = 0 ∨ s0 = 1) (some s0)
set_option maxHeartbeats 4000000 in
set_option maxRecDepth 20000 in
theorem c_X2_canStand_47 {X : CX} {Ω : OM} (hX : CF X Ω RX2 cX2_canStand 2 (some .boolean) rm_X2_canStand) (hO : OKO Ω) (hΩ : oSH Ω = SHX)   (σ : MS)   (s0 : Int32)   : GE X Ω 2 0 0 (emPI σ) 0 0 47 [] [.int s0] σ (b_X2_canStand_47  s0 σ) := by
  unfold b_X2_canStand_47
  refine g_chk (fun hc20 => ?_)
  exact g_iret hX (dc_X2_canStand 9 rfl) (nz_bool hc20).1 rfl (Nat.le_refl _) (Nat.le_refl _)
def b_X2_canStand_0   (x1 : Int32)  (σ : MS) : Option (Int32) := (if x1 = (0 : Int32) then (if (sI σ 4 0) = 0 then (b_X2_canStand_47 ((1 : Int32)) σ) else (b_X2_canStand_47 ((0 : Int32)) σ)) else (if x1 = (1 : Int32) then (if (sI σ 4 0) = 0 then (b_X2_canStand_73 σ) else (if (5 : Int32) ≤ (sI σ 4 2) then (b_X2_canStand_73 σ) else (b_X2_canStand_74 ((1 : Int32)) σ))) else (if x1 = (2 : Int32) then (if (sI σ 4 0) = 0 then (b_X2_canStand_100 σ) else (if (4 : Int32) ≤ (sI σ 4 3) then (b_X2_canStand_100 σ) else (b_X2_canStand_101 ((1 : Int32)) σ))) else (if x1 = (3 : Int32) then (if (sI σ 4 0) = 0 then (b_X2_canStand_128 σ) else (if (6 : Int32) ≤ (sI σ 4 4) then (b_X2_canStand_128 σ) else (b_X2_canStand_129 ((1 : Int32)) σ))) else chk ((sI σ 4 0) = 0 ∨ (sI σ 4 0) = 1) (some (sI σ 4 0))))))
set_option maxHeartbeats 4000000 in
set_option maxRecDepth 20000 in
theorem c_X2_canStand_0 {X : CX} {Ω : OM} (hX : CF X Ω RX2 cX2_canStand 2 (some .boolean) rm_X2_canStand) (hO : OKO Ω) (hΩ : oSH Ω = SHX)   (σ : MS)  (x1 : Int32)    : GE X Ω 2 0 0 (emPI σ) 0 0 0 [(0, .ref 3), (1, .int x1)] [] σ (b_X2_canStand_0  x1 σ) := by
  unfold b_X2_canStand_0
  refine g_iload_n hX (dc_X2_canStand 0 rfl) rfl 1 rfl ?_
  refine g_ite (fun h21 => ?_) (fun h21 => ?_)
  · refine g_tsIn (off := 31) (tgt := 32) hX (dc_X2_canStand 1 rfl) (by rw [h21]; decide) (by rw [h21]; decide) (by rw [h21]; rfl) (by decide) ?_
    refine g_aload_n hX (dc_X2_canStand 2 rfl) rfl 0 rfl ?_
    refine g_getF (q := 4) hX (dc_X2_canStand 3 rfl) fl_X2_12 (by decide) rfl (stS hΩ 3 rfl) rfl ?_
    refine g_getI hX (dc_X2_canStand 4 rfl) fl_X2_86 (by decide) rfl (stS hΩ 4 rfl) ?_
    refine g_if_ne (tgt := 46) hX (dc_X2_canStand 5 rfl) (by decide) (fun h25 => ?_) (fun h25 => ?_)
    · refine g_iconst (w := (1 : Int32)) hX (dc_X2_canStand 6 rfl) (by decide) ?_
      refine g_goto (tgt := 47) hX (dc_X2_canStand 7 rfl) (by decide) ?_
      exact g_sub [] rfl (c_X2_canStand_47 hX hO hΩ σ ((1 : Int32)))
    · refine g_iconst (w := (0 : Int32)) hX (dc_X2_canStand 8 rfl) (by decide) ?_
      exact g_sub [] rfl (c_X2_canStand_47 hX hO hΩ σ ((0 : Int32)))
  · refine g_ite (fun h22 => ?_) (fun h22 => ?_)
    · refine g_tsIn (off := 47) (tgt := 48) hX (dc_X2_canStand 1 rfl) (by rw [h22]; decide) (by rw [h22]; decide) (by rw [h22]; rfl) (by decide) ?_
      refine g_aload_n hX (dc_X2_canStand 10 rfl) rfl 0 rfl ?_
      refine g_getF (q := 4) hX (dc_X2_canStand 11 rfl) fl_X2_12 (by decide) rfl (stS hΩ 3 rfl) rfl ?_
      refine g_getI hX (dc_X2_canStand 12 rfl) fl_X2_86 (by decide) rfl (stS hΩ 4 rfl) ?_
      refine g_if_eq (tgt := 73) hX (dc_X2_canStand 13 rfl) (by decide) (fun h26 => ?_) (fun h26 => ?_)
      · exact g_sub [] rfl (c_X2_canStand_73 hX hO hΩ σ)
      · refine g_aload_n hX (dc_X2_canStand 14 rfl) rfl 0 rfl ?_
        refine g_getF (q := 4) hX (dc_X2_canStand 15 rfl) fl_X2_12 (by decide) rfl (stS hΩ 3 rfl) rfl ?_
        refine g_getI hX (dc_X2_canStand 16 rfl) fl_X2_90 (by decide) rfl (stS hΩ 4 rfl) ?_
        refine g_iconst (w := (5 : Int32)) hX (dc_X2_canStand 17 rfl) (by decide) ?_
        refine g_icmp_ge (tgt := 73) hX (dc_X2_canStand 18 rfl) (by decide) (fun h27 => ?_) (fun h27 => ?_)
        · exact g_sub [] rfl (c_X2_canStand_73 hX hO hΩ σ)
        · refine g_iconst (w := (1 : Int32)) hX (dc_X2_canStand 19 rfl) (by decide) ?_
          refine g_goto (tgt := 74) hX (dc_X2_canStand 20 rfl) (by decide) ?_
          exact g_sub [] rfl (c_X2_canStand_74 hX hO hΩ σ ((1 : Int32)))
    · refine g_ite (fun h23 => ?_) (fun h23 => ?_)
      · refine g_tsIn (off := 74) (tgt := 75) hX (dc_X2_canStand 1 rfl) (by rw [h23]; decide) (by rw [h23]; decide) (by rw [h23]; rfl) (by decide) ?_
        refine g_aload_n hX (dc_X2_canStand 23 rfl) rfl 0 rfl ?_
        refine g_getF (q := 4) hX (dc_X2_canStand 24 rfl) fl_X2_12 (by decide) rfl (stS hΩ 3 rfl) rfl ?_
        refine g_getI hX (dc_X2_canStand 25 rfl) fl_X2_86 (by decide) rfl (stS hΩ 4 rfl) ?_
        refine g_if_eq (tgt := 100) hX (dc_X2_canStand 26 rfl) (by decide) (fun h28 => ?_) (fun h28 => ?_)
        · exact g_sub [] rfl (c_X2_canStand_100 hX hO hΩ σ)
        · refine g_aload_n hX (dc_X2_canStand 27 rfl) rfl 0 rfl ?_
          refine g_getF (q := 4) hX (dc_X2_canStand 28 rfl) fl_X2_12 (by decide) rfl (stS hΩ 3 rfl) rfl ?_
          refine g_getI hX (dc_X2_canStand 29 rfl) fl_X2_93 (by decide) rfl (stS hΩ 4 rfl) ?_
          refine g_iconst (w := (4 : Int32)) hX (dc_X2_canStand 30 rfl) (by decide) ?_
          refine g_icmp_ge (tgt := 100) hX (dc_X2_canStand 31 rfl) (by decide) (fun h29 => ?_) (fun h29 => ?_)
          · exact g_sub [] rfl (c_X2_canStand_100 hX hO hΩ σ)
          · refine g_iconst (w := (1 : Int32)) hX (dc_X2_canStand 32 rfl) (by decide) ?_
            refine g_goto (tgt := 101) hX (dc_X2_canStand 33 rfl) (by decide) ?_
            exact g_sub [] rfl (c_X2_canStand_101 hX hO hΩ σ ((1 : Int32)))
      · refine g_ite (fun h24 => ?_) (fun h24 => ?_)
        · refine g_tsIn (off := 101) (tgt := 102) hX (dc_X2_canStand 1 rfl) (by rw [h24]; decide) (by rw [h24]; decide) (by rw [h24]; rfl) (by decide) ?_
          refine g_aload_n hX (dc_X2_canStand 36 rfl) rfl 0 rfl ?_
          refine g_getF (q := 4) hX (dc_X2_canStand 37 rfl) fl_X2_12 (by decide) rfl (stS hΩ 3 rfl) rfl ?_
          refine g_getI hX (dc_X2_canStand 38 rfl) fl_X2_86 (by decide) rfl (stS hΩ 4 rfl) ?_
          refine g_if_eq (tgt := 128) hX (dc_X2_canStand 39 rfl) (by decide) (fun h30 => ?_) (fun h30 => ?_)
          · exact g_sub [] rfl (c_X2_canStand_128 hX hO hΩ σ)
          · refine g_aload_n hX (dc_X2_canStand 40 rfl) rfl 0 rfl ?_
            refine g_getF (q := 4) hX (dc_X2_canStand 41 rfl) fl_X2_12 (by decide) rfl (stS hΩ 3 rfl) rfl ?_
            refine g_getI hX (dc_X2_canStand 42 rfl) fl_X2_96 (by decide) rfl (stS hΩ 4 rfl) ?_
            refine g_bipush (w := (6 : Int32)) hX (dc_X2_canStand 43 rfl) (by decide) ?_
            refine g_icmp_ge (tgt := 128) hX (dc_X2_canStand 44 rfl) (by decide) (fun h31 => ?_) (fun h31 => ?_)
            · exact g_sub [] rfl (c_X2_canStand_128 hX hO hΩ σ)
            · refine g_iconst (w := (1 : Int32)) hX (dc_X2_canStand 45 rfl) (by decide) ?_
              refine g_goto (tgt := 129) hX (dc_X2_canStand 46 rfl) (by decide) ?_
              exact g_sub [] rfl (c_X2_canStand_129 hX hO hΩ σ ((1 : Int32)))
        · refine g_tsOut (tgt := 130) hX (dc_X2_canStand 1 rfl) (by have e0 := i32ne h21 (k := 0) (by decide); have e1 := i32ne h22 (k := 1) (by decide); have e2 := i32ne h23 (k := 2) (by decide); have e3 := i32ne h24 (k := 3) (by decide); omega) (by decide) ?_
          refine g_aload_n hX (dc_X2_canStand 49 rfl) rfl 0 rfl ?_
          refine g_getF (q := 4) hX (dc_X2_canStand 50 rfl) fl_X2_12 (by decide) rfl (stS hΩ 3 rfl) rfl ?_
          refine g_getI hX (dc_X2_canStand 51 rfl) fl_X2_86 (by decide) rfl (stS hΩ 4 rfl) ?_
          refine g_chk (fun hc32 => ?_)
          exact g_iret hX (dc_X2_canStand 52 rfl) (nz_bool hc32).1 rfl (Nat.le_refl _) (Nat.le_refl _)
def f_X2_canStand (x1 : Int32) (σ : MS) : Option (Int32) := b_X2_canStand_0  x1 σ
theorem con_X2_canStand {Ω : OM} (hO : OKO Ω) (hΩ : oSH Ω = SHX) (x1 : Int32) (σ : MS)  : Con Ω yX2_canStand cX2_canStand 2 (some .boolean) rm_X2_canStand (emPI σ) [.ref 3, .int x1] σ (f_X2_canStand x1 σ) :=
  con_of hO (by decide +kernel) (Nat.le_of_ble_eq_true rfl) rfl (fun X hX _ => c_X2_canStand_0 hX hO hΩ   σ x1)
def it_X2_openClause : List (Nat × Instr × Nat × Nat) := [(0, .aload_n 0, 1, 1), (1, .getfield 23, 3, 4), (4, .invokevirtual 63, 3, 7), (7, .aload_n 0, 1, 8), (8, .getfield 23, 3, 11), (11, .ldc 66, 2, 13), (13, .invokevirtual 68, 3, 16), (16, .istore_n 2, 1, 17), (17, .iload_n 2, 1, 18), (18, .iconst (-1), 1, 19), (19, .if_icmp .ne 14, 3, 22), (22, .aload_n 0, 1, 23), (23, .getfield 23, 3, 26), (26, .iconst 0, 1, 27), (27, .invokevirtual 72, 3, 30), (30, .goto 25, 3, 33), (33, .iload_n 1, 1, 34), (34, .bipush 40, 2, 36), (36, .if_icmp .ge 11, 3, 39), (39, .aload_n 0, 1, 40), (40, .iload_n 2, 1, 41), (41, .invokevirtual 76, 3, 44), (44, .ifCond .ne 11, 3, 47), (47, .aload_n 0, 1, 48), (48, .getfield 23, 3, 51), (51, .iconst 4, 1, 52), (52, .invokevirtual 72, 3, 55), (55, .aload_n 0, 1, 56), (56, .getfield 23, 3, 59), (59, .getfield 55, 3, 62), (62, .ifCond .ne 7, 3, 65), (65, .iload_n 2, 1, 66), (66, .goto 4, 3, 69), (69, .iconst (-1), 1, 70), (70, .ireturn, 1, 71)]
theorem id_X2_openClause : ∀ q ∈ it_X2_openClause, decode cX2_openClause q.1 = .ok (q.2.1, q.2.2.1) ∧ q.1 + q.2.2.1 = q.2.2.2 := by decide +kernel
theorem dc_X2_openClause {pc : Nat} {i : Instr} {n pc' : Nat} (j : Nat) (h : it_X2_openClause[j]? = some (pc, i, n, pc')) : Dc cX2_openClause pc i n pc' := dc_of id_X2_openClause j h
abbrev rm_X2_openClause : Room := { frames := 6, cells := 0, slots := 0, locals := 133 }
def b_X2_openClause_70    (s0 : Int32) (σ : MS) : Option (Int32 × MS) := some (s0, σ)
set_option maxHeartbeats 4000000 in
set_option maxRecDepth 20000 in
theorem c_X2_openClause_70 {X : CX} {Ω : OM} (hX : CF X Ω RX2 cX2_openClause 3 (some .int) rm_X2_openClause) (hO : OKO Ω) (hΩ : oSH Ω = SHX)     (s0 : Int32) (σ : MS)  : GE X Ω 3 0 0 (emWI) 0 0 70 [] [.int s0] σ (b_X2_openClause_70  s0 σ) := by
  unfold b_X2_openClause_70
  exact g_iret hX (dc_X2_openClause 34 rfl) rfl rfl (Nat.le_refl _) (Nat.le_refl _)
def b_X2_openClause_55    (y2 : Int32) (σ : MS) : Option (Int32 × MS) := (if (sI σ 16 6) = 0 then (b_X2_openClause_70 (y2) σ) else (b_X2_openClause_70 ((-1 : Int32)) σ))
set_option maxHeartbeats 4000000 in
set_option maxRecDepth 20000 in
theorem c_X2_openClause_55 {X : CX} {Ω : OM} (hX : CF X Ω RX2 cX2_openClause 3 (some .int) rm_X2_openClause) (hO : OKO Ω) (hΩ : oSH Ω = SHX)     (y2 : Int32) (σ : MS)  : GE X Ω 3 0 0 (emWI) 0 0 55 [(0, .ref 3), (2, .int y2)] [] σ (b_X2_openClause_55  y2 σ) := by
  unfold b_X2_openClause_55
  refine g_aload_n hX (dc_X2_openClause 27 rfl) rfl 0 rfl ?_
  refine g_getF (q := 16) hX (dc_X2_openClause 28 rfl) fl_X2_23 (by decide) rfl (stS hΩ 3 rfl) rfl ?_
  refine g_getI hX (dc_X2_openClause 29 rfl) fl_X2_55 (by decide) rfl (stS hΩ 16 rfl) ?_
  refine g_if_ne (tgt := 69) hX (dc_X2_openClause 30 rfl) (by decide) (fun h10 => ?_) (fun h10 => ?_)
  · refine g_iload_n hX (dc_X2_openClause 31 rfl) rfl 1 rfl ?_
    refine g_goto (tgt := 70) hX (dc_X2_openClause 32 rfl) (by decide) ?_
    exact g_sub [] rfl (c_X2_openClause_70 hX hO hΩ (y2) σ)
  · refine g_iconst (w := (-1 : Int32)) hX (dc_X2_openClause 33 rfl) (by decide) ?_
    exact g_sub [] rfl (c_X2_openClause_70 hX hO hΩ ((-1 : Int32)) σ)
def b_X2_openClause_47    (y2 : Int32) (σ : MS) : Option (Int32 × MS) := (f_X4_fail 16 (4 : Int32) σ).bind (fun r11 => (b_X2_openClause_55 (y2) r11))
set_option maxHeartbeats 4000000 in
set_option maxRecDepth 20000 in
theorem c_X2_openClause_47 {X : CX} {Ω : OM} (hX : CF X Ω RX2 cX2_openClause 3 (some .int) rm_X2_openClause) (hO : OKO Ω) (hΩ : oSH Ω = SHX)     (y2 : Int32) (σ : MS)  : GE X Ω 3 0 0 (emWI) 0 0 47 [(0, .ref 3), (2, .int y2)] [] σ (b_X2_openClause_47  y2 σ) := by
  unfold b_X2_openClause_47
  refine g_aload_n hX (dc_X2_openClause 23 rfl) rfl 0 rfl ?_
  refine g_getF (q := 16) hX (dc_X2_openClause 24 rfl) fl_X2_23 (by decide) rfl (stS hΩ 3 rfl) rfl ?_
  refine g_iconst (w := (4 : Int32)) hX (dc_X2_openClause 25 rfl) (by decide) ?_
  refine gV_WV (As := [.int (4 : Int32)]) (st := []) hX (dc_X2_openClause 26 rfl) ml_X2_72 (con_X4_fail hO hΩ 16 (4 : Int32) σ (stR hΩ 16 (by decide))) (stS hΩ 16 rfl) rfl rfl ⟨by decide, by decide⟩ ⟨rfl, rfl⟩ ⟨Nat.zero_le _, Nat.zero_le _⟩ (Nat.le_of_ble_eq_true rfl) (fun r11 _ => ?_)
  exact g_sub [0, 1] rfl (c_X2_openClause_55 hX hO hΩ (y2) r11)
def b_X2_openClause_0   (x1 : Int32)  (σ : MS) : Option (Int32 × MS) := (f_X4_advance 16 σ).bind (fun r12 => (f_X4_wordAmong 16 0 r12).bind (fun r13 => (if r13 = (-1 : Int32) then (f_X4_fail 16 (0 : Int32) r12).bind (fun r15 => (b_X2_openClause_55 (r13) r15)) else (if (40 : Int32) ≤ x1 then (b_X2_openClause_47 (r13) r12) else (f_X2_canStand r13 r12).bind (fun r17 => (if r17 = 0 then (b_X2_openClause_47 (r13) r12) else (b_X2_openClause_55 (r13) r12)))))))
set_option maxHeartbeats 4000000 in
set_option maxRecDepth 20000 in
theorem c_X2_openClause_0 {X : CX} {Ω : OM} (hX : CF X Ω RX2 cX2_openClause 3 (some .int) rm_X2_openClause) (hO : OKO Ω) (hΩ : oSH Ω = SHX)    (x1 : Int32)  (σ : MS)  : GE X Ω 3 0 0 (emWI) 0 0 0 [(0, .ref 3), (1, .int x1)] [] σ (b_X2_openClause_0  x1 σ) := by
  unfold b_X2_openClause_0
  refine g_aload_n hX (dc_X2_openClause 0 rfl) rfl 0 rfl ?_
  refine g_getF (q := 16) hX (dc_X2_openClause 1 rfl) fl_X2_23 (by decide) rfl (stS hΩ 3 rfl) rfl ?_
  refine gV_WV (As := []) (st := []) hX (dc_X2_openClause 2 rfl) ml_X2_63 (con_X4_advance hO hΩ 16 σ (stR hΩ 16 (by decide))) (stS hΩ 16 rfl) rfl rfl ⟨by decide, by decide⟩ ⟨rfl, rfl⟩ ⟨Nat.zero_le _, Nat.zero_le _⟩ (Nat.le_of_ble_eq_true rfl) (fun r12 _ => ?_)
  refine g_aload_n hX (dc_X2_openClause 3 rfl) rfl 0 rfl ?_
  refine g_getF (q := 16) hX (dc_X2_openClause 4 rfl) fl_X2_23 (by decide) rfl (stS hΩ 3 rfl) rfl ?_
  refine g_ldcS (i := 0) hX (dc_X2_openClause 5 rfl) (by decide) rfl ?_
  refine gV_PI (As := [.ref (1000000 + 0)]) (st := []) hX (dc_X2_openClause 6 rfl) ml_X2_68 (con_X4_wordAmong hO hΩ 16 0 r12 (stR hΩ 16 (by decide)) (by decide)) (stS hΩ 16 rfl) rfl rfl ⟨by decide, by decide⟩ ⟨rfl, rfl⟩ ⟨Nat.zero_le _, Nat.zero_le _⟩ (Nat.le_of_ble_eq_true rfl) (fun r13 _ => ?_)
  refine g_istore_n (L' := [(2, .int r13), (0, .ref 3), (1, .int x1)]) hX (dc_X2_openClause 7 rfl) rfl (by decide) rfl ?_
  refine g_iload_n hX (dc_X2_openClause 8 rfl) rfl 0 rfl ?_
  refine g_iconst (w := (-1 : Int32)) hX (dc_X2_openClause 9 rfl) (by decide) ?_
  refine g_icmp_ne (tgt := 33) hX (dc_X2_openClause 10 rfl) (by decide) (fun h14 => ?_) (fun h14 => ?_)
  · refine g_aload_n hX (dc_X2_openClause 11 rfl) rfl 1 rfl ?_
    refine g_getF (q := 16) hX (dc_X2_openClause 12 rfl) fl_X2_23 (by decide) rfl (stS hΩ 3 rfl) rfl ?_
    refine g_iconst (w := (0 : Int32)) hX (dc_X2_openClause 13 rfl) (by decide) ?_
    refine gV_WV (As := [.int (0 : Int32)]) (st := []) hX (dc_X2_openClause 14 rfl) ml_X2_72 (con_X4_fail hO hΩ 16 (0 : Int32) r12 (stR hΩ 16 (by decide))) (stS hΩ 16 rfl) rfl rfl ⟨by decide, by decide⟩ ⟨rfl, rfl⟩ ⟨Nat.zero_le _, Nat.zero_le _⟩ (Nat.le_of_ble_eq_true rfl) (fun r15 _ => ?_)
    refine g_goto (tgt := 55) hX (dc_X2_openClause 15 rfl) (by decide) ?_
    exact g_sub [1, 0] rfl (c_X2_openClause_55 hX hO hΩ (r13) r15)
  · refine g_iload_n hX (dc_X2_openClause 16 rfl) rfl 2 rfl ?_
    refine g_bipush (w := (40 : Int32)) hX (dc_X2_openClause 17 rfl) (by decide) ?_
    refine g_icmp_ge (tgt := 47) hX (dc_X2_openClause 18 rfl) (by decide) (fun h16 => ?_) (fun h16 => ?_)
    · exact g_sub [1, 0] rfl (c_X2_openClause_47 hX hO hΩ (r13) r12)
    · refine g_aload_n hX (dc_X2_openClause 19 rfl) rfl 1 rfl ?_
      refine g_iload_n hX (dc_X2_openClause 20 rfl) rfl 0 rfl ?_
      refine gV_PI (As := [.int r13]) (st := []) hX (dc_X2_openClause 21 rfl) ml_X2_76 (con_X2_canStand hO hΩ r13 r12) (stS hΩ 3 rfl) rfl rfl ⟨by decide, by decide⟩ ⟨rfl, rfl⟩ ⟨Nat.zero_le _, Nat.zero_le _⟩ (Nat.le_of_ble_eq_true rfl) (fun r17 _ => ?_)
      refine g_if_ne (tgt := 55) hX (dc_X2_openClause 22 rfl) (by decide) (fun h18 => ?_) (fun h18 => ?_)
      · exact g_sub [1, 0] rfl (c_X2_openClause_47 hX hO hΩ (r13) r12)
      · exact g_sub [1, 0] rfl (c_X2_openClause_55 hX hO hΩ (r13) r12)
def f_X2_openClause (x1 : Int32) (σ : MS) : Option (Int32 × MS) := b_X2_openClause_0  x1 σ
theorem con_X2_openClause {Ω : OM} (hO : OKO Ω) (hΩ : oSH Ω = SHX) (x1 : Int32) (σ : MS)  : Con Ω yX2_openClause cX2_openClause 3 (some .int) rm_X2_openClause (emWI) [.ref 3, .int x1] σ (f_X2_openClause x1 σ) :=
  con_of hO (by decide +kernel) (Nat.le_of_ble_eq_true rfl) rfl (fun X hX _ => c_X2_openClause_0 hX hO hΩ   x1 σ )
def it_X2_readNumber : List (Nat × Instr × Nat × Nat) := [(0, .aload_n 0, 1, 1), (1, .getfield 23, 3, 4), (4, .getfield 55, 3, 7), (7, .ifCond .eq 5, 3, 10), (10, .iconst (-1), 1, 11), (11, .ireturn, 1, 12), (12, .aload_n 0, 1, 13), (13, .getfield 23, 3, 16), (16, .invokevirtual 63, 3, 19), (19, .aload_n 0, 1, 20), (20, .getfield 23, 3, 23), (23, .getfield 99, 3, 26), (26, .iconst 1, 1, 27), (27, .if_icmp .eq 13, 3, 30), (30, .aload_n 0, 1, 31), (31, .getfield 23, 3, 34), (34, .iconst 0, 1, 35), (35, .invokevirtual 72, 3, 38), (38, .iconst (-1), 1, 39), (39, .ireturn, 1, 40), (40, .aload_n 0, 1, 41), (41, .getfield 23, 3, 44), (44, .getfield 102, 3, 47), (47, .iload_n 1, 1, 48), (48, .if_icmp .lt 14, 3, 51), (51, .aload_n 0, 1, 52), (52, .getfield 23, 3, 55), (55, .getfield 102, 3, 58), (58, .iload_n 2, 1, 59), (59, .if_icmp .le 11, 3, 62), (62, .aload_n 0, 1, 63), (63, .getfield 23, 3, 66), (66, .iconst 1, 1, 67), (67, .invokevirtual 72, 3, 70), (70, .aload_n 0, 1, 71), (71, .getfield 23, 3, 74), (74, .getfield 102, 3, 77), (77, .ireturn, 1, 78)]
theorem id_X2_readNumber : ∀ q ∈ it_X2_readNumber, decode cX2_readNumber q.1 = .ok (q.2.1, q.2.2.1) ∧ q.1 + q.2.2.1 = q.2.2.2 := by decide +kernel
theorem dc_X2_readNumber {pc : Nat} {i : Instr} {n pc' : Nat} (j : Nat) (h : it_X2_readNumber[j]? = some (pc, i, n, pc')) : Dc cX2_readNumber pc i n pc' := dc_of id_X2_readNumber j h
abbrev rm_X2_readNumber : Room := { frames := 3, cells := 0, slots := 0, locals := 63 }
def b_X2_readNumber_70     (σ : MS) : Option (Int32 × MS) := some ((sI σ 16 4), σ)
set_option maxHeartbeats 4000000 in
set_option maxRecDepth 20000 in
theorem c_X2_readNumber_70 {X : CX} {Ω : OM} (hX : CF X Ω RX2 cX2_readNumber 3 (some .int) rm_X2_readNumber) (hO : OKO Ω) (hΩ : oSH Ω = SHX)      (σ : MS)  : GE X Ω 3 0 0 (emWI) 0 0 70 [(0, .ref 3)] [] σ (b_X2_readNumber_70  σ) := by
  unfold b_X2_readNumber_70
  refine g_aload_n hX (dc_X2_readNumber 34 rfl) rfl 0 rfl ?_
  refine g_getF (q := 16) hX (dc_X2_readNumber 35 rfl) fl_X2_23 (by decide) rfl (stS hΩ 3 rfl) rfl ?_
  refine g_getI hX (dc_X2_readNumber 36 rfl) fl_X2_102 (by decide) rfl (stS hΩ 16 rfl) ?_
  exact g_iret hX (dc_X2_readNumber 37 rfl) rfl rfl (Nat.le_refl _) (Nat.le_refl _)
def b_X2_readNumber_62     (σ : MS) : Option (Int32 × MS) := (f_X4_fail 16 (1 : Int32) σ).bind (fun r8 => (b_X2_readNumber_70 r8))
set_option maxHeartbeats 4000000 in
set_option maxRecDepth 20000 in
theorem c_X2_readNumber_62 {X : CX} {Ω : OM} (hX : CF X Ω RX2 cX2_readNumber 3 (some .int) rm_X2_readNumber) (hO : OKO Ω) (hΩ : oSH Ω = SHX)      (σ : MS)  : GE X Ω 3 0 0 (emWI) 0 0 62 [(0, .ref 3)] [] σ (b_X2_readNumber_62  σ) := by
  unfold b_X2_readNumber_62
  refine g_aload_n hX (dc_X2_readNumber 30 rfl) rfl 0 rfl ?_
  refine g_getF (q := 16) hX (dc_X2_readNumber 31 rfl) fl_X2_23 (by decide) rfl (stS hΩ 3 rfl) rfl ?_
  refine g_iconst (w := (1 : Int32)) hX (dc_X2_readNumber 32 rfl) (by decide) ?_
  refine gV_WV (As := [.int (1 : Int32)]) (st := []) hX (dc_X2_readNumber 33 rfl) ml_X2_72 (con_X4_fail hO hΩ 16 (1 : Int32) σ (stR hΩ 16 (by decide))) (stS hΩ 16 rfl) rfl rfl ⟨by decide, by decide⟩ ⟨rfl, rfl⟩ ⟨Nat.zero_le _, Nat.zero_le _⟩ (Nat.le_of_ble_eq_true rfl) (fun r8 _ => ?_)
  exact g_sub [0] rfl (c_X2_readNumber_70 hX hO hΩ r8)
def b_X2_readNumber_0   (x1 : Int32) (x2 : Int32)  (σ : MS) : Option (Int32 × MS) := (if (sI σ 16 6) = 0 then (f_X4_advance 16 σ).bind (fun r10 => (if (sI r10 16 2) = (1 : Int32) then (if (sI r10 16 4) < x1 then (b_X2_readNumber_62 r10) else (if (sI r10 16 4) ≤ x2 then (b_X2_readNumber_70 r10) else (b_X2_readNumber_62 r10))) else (f_X4_fail 16 (0 : Int32) r10).bind (fun r14 => some ((-1 : Int32), r14)))) else some ((-1 : Int32), σ))
set_option maxHeartbeats 4000000 in
set_option maxRecDepth 20000 in
theorem c_X2_readNumber_0 {X : CX} {Ω : OM} (hX : CF X Ω RX2 cX2_readNumber 3 (some .int) rm_X2_readNumber) (hO : OKO Ω) (hΩ : oSH Ω = SHX)    (x1 : Int32) (x2 : Int32)  (σ : MS)  : GE X Ω 3 0 0 (emWI) 0 0 0 [(0, .ref 3), (1, .int x1), (2, .int x2)] [] σ (b_X2_readNumber_0  x1 x2 σ) := by
  unfold b_X2_readNumber_0
  refine g_aload_n hX (dc_X2_readNumber 0 rfl) rfl 0 rfl ?_
  refine g_getF (q := 16) hX (dc_X2_readNumber 1 rfl) fl_X2_23 (by decide) rfl (stS hΩ 3 rfl) rfl ?_
  refine g_getI hX (dc_X2_readNumber 2 rfl) fl_X2_55 (by decide) rfl (stS hΩ 16 rfl) ?_
  refine g_if_eq (tgt := 12) hX (dc_X2_readNumber 3 rfl) (by decide) (fun h9 => ?_) (fun h9 => ?_)
  · refine g_aload_n hX (dc_X2_readNumber 6 rfl) rfl 0 rfl ?_
    refine g_getF (q := 16) hX (dc_X2_readNumber 7 rfl) fl_X2_23 (by decide) rfl (stS hΩ 3 rfl) rfl ?_
    refine gV_WV (As := []) (st := []) hX (dc_X2_readNumber 8 rfl) ml_X2_63 (con_X4_advance hO hΩ 16 σ (stR hΩ 16 (by decide))) (stS hΩ 16 rfl) rfl rfl ⟨by decide, by decide⟩ ⟨rfl, rfl⟩ ⟨Nat.zero_le _, Nat.zero_le _⟩ (Nat.le_of_ble_eq_true rfl) (fun r10 _ => ?_)
    refine g_aload_n hX (dc_X2_readNumber 9 rfl) rfl 0 rfl ?_
    refine g_getF (q := 16) hX (dc_X2_readNumber 10 rfl) fl_X2_23 (by decide) rfl (stS hΩ 3 rfl) rfl ?_
    refine g_getI hX (dc_X2_readNumber 11 rfl) fl_X2_99 (by decide) rfl (stS hΩ 16 rfl) ?_
    refine g_iconst (w := (1 : Int32)) hX (dc_X2_readNumber 12 rfl) (by decide) ?_
    refine g_icmp_eq (tgt := 40) hX (dc_X2_readNumber 13 rfl) (by decide) (fun h11 => ?_) (fun h11 => ?_)
    · refine g_aload_n hX (dc_X2_readNumber 20 rfl) rfl 0 rfl ?_
      refine g_getF (q := 16) hX (dc_X2_readNumber 21 rfl) fl_X2_23 (by decide) rfl (stS hΩ 3 rfl) rfl ?_
      refine g_getI hX (dc_X2_readNumber 22 rfl) fl_X2_102 (by decide) rfl (stS hΩ 16 rfl) ?_
      refine g_iload_n hX (dc_X2_readNumber 23 rfl) rfl 1 rfl ?_
      refine g_icmp_lt (tgt := 62) hX (dc_X2_readNumber 24 rfl) (by decide) (fun h12 => ?_) (fun h12 => ?_)
      · exact g_sub [0] rfl (c_X2_readNumber_62 hX hO hΩ r10)
      · refine g_aload_n hX (dc_X2_readNumber 25 rfl) rfl 0 rfl ?_
        refine g_getF (q := 16) hX (dc_X2_readNumber 26 rfl) fl_X2_23 (by decide) rfl (stS hΩ 3 rfl) rfl ?_
        refine g_getI hX (dc_X2_readNumber 27 rfl) fl_X2_102 (by decide) rfl (stS hΩ 16 rfl) ?_
        refine g_iload_n hX (dc_X2_readNumber 28 rfl) rfl 2 rfl ?_
        refine g_icmp_le (tgt := 70) hX (dc_X2_readNumber 29 rfl) (by decide) (fun h13 => ?_) (fun h13 => ?_)
        · exact g_sub [0] rfl (c_X2_readNumber_70 hX hO hΩ r10)
        · exact g_sub [0] rfl (c_X2_readNumber_62 hX hO hΩ r10)
    · refine g_aload_n hX (dc_X2_readNumber 14 rfl) rfl 0 rfl ?_
      refine g_getF (q := 16) hX (dc_X2_readNumber 15 rfl) fl_X2_23 (by decide) rfl (stS hΩ 3 rfl) rfl ?_
      refine g_iconst (w := (0 : Int32)) hX (dc_X2_readNumber 16 rfl) (by decide) ?_
      refine gV_WV (As := [.int (0 : Int32)]) (st := []) hX (dc_X2_readNumber 17 rfl) ml_X2_72 (con_X4_fail hO hΩ 16 (0 : Int32) r10 (stR hΩ 16 (by decide))) (stS hΩ 16 rfl) rfl rfl ⟨by decide, by decide⟩ ⟨rfl, rfl⟩ ⟨Nat.zero_le _, Nat.zero_le _⟩ (Nat.le_of_ble_eq_true rfl) (fun r14 _ => ?_)
      refine g_iconst (w := (-1 : Int32)) hX (dc_X2_readNumber 18 rfl) (by decide) ?_
      exact g_iret hX (dc_X2_readNumber 19 rfl) rfl rfl (Nat.le_refl _) (Nat.le_refl _)
  · refine g_iconst (w := (-1 : Int32)) hX (dc_X2_readNumber 4 rfl) (by decide) ?_
    exact g_iret hX (dc_X2_readNumber 5 rfl) rfl rfl (Nat.le_refl _) (Nat.le_refl _)
def f_X2_readNumber (x1 : Int32) (x2 : Int32) (σ : MS) : Option (Int32 × MS) := b_X2_readNumber_0  x1 x2 σ
theorem con_X2_readNumber {Ω : OM} (hO : OKO Ω) (hΩ : oSH Ω = SHX) (x1 : Int32) (x2 : Int32) (σ : MS)  : Con Ω yX2_readNumber cX2_readNumber 3 (some .int) rm_X2_readNumber (emWI) [.ref 3, .int x1, .int x2] σ (f_X2_readNumber x1 x2 σ) :=
  con_of hO (by decide +kernel) (Nat.le_of_ble_eq_true rfl) rfl (fun X hX _ => c_X2_readNumber_0 hX hO hΩ   x1 x2 σ )
def it_X2_readDuchy : List (Nat × Instr × Nat × Nat) := [(0, .aload_n 0, 1, 1), (1, .getfield 12, 3, 4), (4, .iconst 1, 1, 5), (5, .putfield 86, 3, 8), (8, .aload_n 0, 1, 9), (9, .getfield 12, 3, 12), (12, .aload_n 0, 1, 13), (13, .iconst 0, 1, 14), (14, .bipush 99, 2, 16), (16, .invokevirtual 105, 3, 19), (19, .putfield 109, 3, 22), (22, .aload_n 0, 1, 23), (23, .getfield 12, 3, 26), (26, .getfield 112, 3, 29), (29, .aload_n 0, 1, 30), (30, .iconst 0, 1, 31), (31, .sipush 9999, 3, 34), (34, .invokevirtual 105, 3, 37), (37, .putfield 116, 3, 40), (40, .return_, 1, 41)]
theorem id_X2_readDuchy : ∀ q ∈ it_X2_readDuchy, decode cX2_readDuchy q.1 = .ok (q.2.1, q.2.2.1) ∧ q.1 + q.2.2.1 = q.2.2.2 := by decide +kernel
theorem dc_X2_readDuchy {pc : Nat} {i : Instr} {n pc' : Nat} (j : Nat) (h : it_X2_readDuchy[j]? = some (pc, i, n, pc')) : Dc cX2_readDuchy pc i n pc' := dc_of id_X2_readDuchy j h
abbrev rm_X2_readDuchy : Room := { frames := 4, cells := 0, slots := 0, locals := 85 }
def b_X2_readDuchy_0     (σ : MS) : Option (MS) := (f_X2_readNumber (0 : Int32) (99 : Int32) (wI σ 4 0 (1 : Int32))).bind (fun r3 => (f_X2_readNumber (0 : Int32) (9999 : Int32) (wI r3.2 4 1 r3.1)).bind (fun r4 => some ((wI r4.2 12 4 r4.1))))
set_option maxHeartbeats 4000000 in
set_option maxRecDepth 20000 in
theorem c_X2_readDuchy_0 {X : CX} {Ω : OM} (hX : CF X Ω RX2 cX2_readDuchy 1 none rm_X2_readDuchy) (hO : OKO Ω) (hΩ : oSH Ω = SHX)      (σ : MS)  : GE X Ω 1 0 0 (emWV) 0 0 0 [(0, .ref 3)] [] σ (b_X2_readDuchy_0  σ) := by
  unfold b_X2_readDuchy_0
  refine g_aload_n hX (dc_X2_readDuchy 0 rfl) rfl 0 rfl ?_
  refine g_getF (q := 4) hX (dc_X2_readDuchy 1 rfl) fl_X2_12 (by decide) rfl (stS hΩ 3 rfl) rfl ?_
  refine g_iconst (w := (1 : Int32)) hX (dc_X2_readDuchy 2 rfl) (by decide) ?_
  refine g_putI (raw := false) hX (dc_X2_readDuchy 3 rfl) fl_X2_86 (by decide) ⟨rfl, rfl⟩ ⟨rfl, rfl⟩ (stS hΩ 4 rfl) ?_
  refine g_aload_n hX (dc_X2_readDuchy 4 rfl) rfl 0 rfl ?_
  refine g_getF (q := 4) hX (dc_X2_readDuchy 5 rfl) fl_X2_12 (by decide) rfl (stS hΩ 3 rfl) rfl ?_
  refine g_aload_n hX (dc_X2_readDuchy 6 rfl) rfl 0 rfl ?_
  refine g_iconst (w := (0 : Int32)) hX (dc_X2_readDuchy 7 rfl) (by decide) ?_
  refine g_bipush (w := (99 : Int32)) hX (dc_X2_readDuchy 8 rfl) (by decide) ?_
  refine gV_WI (As := [.int (0 : Int32), .int (99 : Int32)]) (st := [.ref 4]) hX (dc_X2_readDuchy 9 rfl) ml_X2_105 (con_X2_readNumber hO hΩ (0 : Int32) (99 : Int32) (wI σ 4 0 (1 : Int32))) (stS hΩ 3 rfl) rfl rfl ⟨by decide, by decide⟩ ⟨rfl, rfl⟩ ⟨Nat.zero_le _, Nat.zero_le _⟩ (Nat.le_of_ble_eq_true rfl) (fun r3 _ => ?_)
  refine g_putI (raw := false) hX (dc_X2_readDuchy 10 rfl) fl_X2_109 (by decide) ⟨rfl, rfl⟩ ⟨rfl, rfl⟩ (stS hΩ 4 rfl) ?_
  refine g_aload_n hX (dc_X2_readDuchy 11 rfl) rfl 0 rfl ?_
  refine g_getF (q := 4) hX (dc_X2_readDuchy 12 rfl) fl_X2_12 (by decide) rfl (stS hΩ 3 rfl) rfl ?_
  refine g_getF (q := 12) hX (dc_X2_readDuchy 13 rfl) fl_X2_112 (by decide) rfl (stS hΩ 4 rfl) rfl ?_
  refine g_aload_n hX (dc_X2_readDuchy 14 rfl) rfl 0 rfl ?_
  refine g_iconst (w := (0 : Int32)) hX (dc_X2_readDuchy 15 rfl) (by decide) ?_
  refine g_sipush (w := (9999 : Int32)) hX (dc_X2_readDuchy 16 rfl) (by decide) ?_
  refine gV_WI (As := [.int (0 : Int32), .int (9999 : Int32)]) (st := [.ref 12]) hX (dc_X2_readDuchy 17 rfl) ml_X2_105 (con_X2_readNumber hO hΩ (0 : Int32) (9999 : Int32) (wI r3.2 4 1 r3.1)) (stS hΩ 3 rfl) rfl rfl ⟨by decide, by decide⟩ ⟨rfl, rfl⟩ ⟨Nat.zero_le _, Nat.zero_le _⟩ (Nat.le_of_ble_eq_true rfl) (fun r4 _ => ?_)
  refine g_putI (raw := false) hX (dc_X2_readDuchy 18 rfl) fl_X2_116 (by decide) ⟨rfl, rfl⟩ ⟨rfl, rfl⟩ (stS hΩ 12 rfl) ?_
  exact g_vret hX (dc_X2_readDuchy 19 rfl) rfl (Nat.le_refl _) (Nat.le_refl _)
def f_X2_readDuchy  (σ : MS) : Option (MS) := b_X2_readDuchy_0   σ
theorem con_X2_readDuchy {Ω : OM} (hO : OKO Ω) (hΩ : oSH Ω = SHX)  (σ : MS)  : Con Ω yX2_readDuchy cX2_readDuchy 1 none rm_X2_readDuchy (emWV) [.ref 3] σ (f_X2_readDuchy  σ) :=
  con_of hO (by decide +kernel) (Nat.le_of_ble_eq_true rfl) rfl (fun X hX _ => c_X2_readDuchy_0 hX hO hΩ    σ )
def it_X3_addKind : List (Nat × Instr × Nat × Nat) := [(0, .aload_n 0, 1, 1), (1, .getfield 48, 3, 4), (4, .iconst 5, 1, 5), (5, .if_icmp .ge 33, 3, 8), (8, .aload_n 0, 1, 9), (9, .getfield 9, 3, 12), (12, .aload_n 0, 1, 13), (13, .getfield 48, 3, 16), (16, .iload_n 1, 1, 17), (17, .iastore, 1, 18), (18, .aload_n 0, 1, 19), (19, .getfield 15, 3, 22), (22, .aload_n 0, 1, 23), (23, .getfield 48, 3, 26), (26, .iload_n 2, 1, 27), (27, .iastore, 1, 28), (28, .aload_n 0, 1, 29), (29, .dup, 1, 30), (30, .getfield 48, 3, 33), (33, .iconst 1, 1, 34), (34, .iadd, 1, 35), (35, .putfield 48, 3, 38), (38, .return_, 1, 39)]
theorem id_X3_addKind : ∀ q ∈ it_X3_addKind, decode cX3_addKind q.1 = .ok (q.2.1, q.2.2.1) ∧ q.1 + q.2.2.1 = q.2.2.2 := by decide +kernel
theorem dc_X3_addKind {pc : Nat} {i : Instr} {n pc' : Nat} (j : Nat) (h : it_X3_addKind[j]? = some (pc, i, n, pc')) : Dc cX3_addKind pc i n pc' := dc_of id_X3_addKind j h
abbrev rm_X3_addKind : Room := { frames := 0, cells := 0, slots := 0, locals := 0 }
def b_X3_addKind_38     (σ : MS) : Option (MS) := some (σ)
set_option maxHeartbeats 4000000 in
set_option maxRecDepth 20000 in
theorem c_X3_addKind_38 {X : CX} {Ω : OM} (hX : CF X Ω RX3 cX3_addKind 3 none rm_X3_addKind) (hO : OKO Ω) (hΩ : oSH Ω = SHX)      (σ : MS)  : GE X Ω 3 0 0 (emWV) 0 0 38 [] [] σ (b_X3_addKind_38  σ) := by
  unfold b_X3_addKind_38
  exact g_vret hX (dc_X3_addKind 22 rfl) rfl (Nat.le_refl _) (Nat.le_refl _)
def b_X3_addKind_0   (x1 : Int32) (x2 : Int32)  (σ : MS) : Option (MS) := (if (5 : Int32) ≤ (sI σ 4 2) then (b_X3_addKind_38 σ) else chk (inb (sI σ 4 2) 5) (chk (inb (sI (wI σ 5 (ix (sI σ 4 2)) x1) 4 2) 5) ((b_X3_addKind_38 (wI (wI (wI σ 5 (ix (sI σ 4 2)) x1) 6 (ix (sI (wI σ 5 (ix (sI σ 4 2)) x1) 4 2)) x2) 4 2 ((sI (wI (wI σ 5 (ix (sI σ 4 2)) x1) 6 (ix (sI (wI σ 5 (ix (sI σ 4 2)) x1) 4 2)) x2) 4 2) + (1 : Int32)))))))
set_option maxHeartbeats 4000000 in
set_option maxRecDepth 20000 in
theorem c_X3_addKind_0 {X : CX} {Ω : OM} (hX : CF X Ω RX3 cX3_addKind 3 none rm_X3_addKind) (hO : OKO Ω) (hΩ : oSH Ω = SHX)    (x1 : Int32) (x2 : Int32)  (σ : MS)  : GE X Ω 3 0 0 (emWV) 0 0 0 [(0, .ref 4), (1, .int x1), (2, .int x2)] [] σ (b_X3_addKind_0  x1 x2 σ) := by
  unfold b_X3_addKind_0
  refine g_aload_n hX (dc_X3_addKind 0 rfl) rfl 0 rfl ?_
  refine g_getI hX (dc_X3_addKind 1 rfl) fl_X3_48 (by decide) rfl (stS hΩ 4 rfl) ?_
  refine g_iconst (w := (5 : Int32)) hX (dc_X3_addKind 2 rfl) (by decide) ?_
  refine g_icmp_ge (tgt := 38) hX (dc_X3_addKind 3 rfl) (by decide) (fun h4 => ?_) (fun h4 => ?_)
  · exact g_sub [] rfl (c_X3_addKind_38 hX hO hΩ σ)
  · refine g_aload_n hX (dc_X3_addKind 4 rfl) rfl 0 rfl ?_
    refine g_getF (q := 5) hX (dc_X3_addKind 5 rfl) fl_X3_9 (by decide) rfl (stS hΩ 4 rfl) rfl ?_
    refine g_aload_n hX (dc_X3_addKind 6 rfl) rfl 0 rfl ?_
    refine g_getI hX (dc_X3_addKind 7 rfl) fl_X3_48 (by decide) rfl (stS hΩ 4 rfl) ?_
    refine g_iload_n hX (dc_X3_addKind 8 rfl) rfl 1 rfl ?_
    refine g_chk (fun hc5 => ?_)
    refine g_iast hX (dc_X3_addKind 9 rfl) (stS hΩ 5 rfl) hc5 rfl ?_
    refine g_aload_n hX (dc_X3_addKind 10 rfl) rfl 0 rfl ?_
    refine g_getF (q := 6) hX (dc_X3_addKind 11 rfl) fl_X3_15 (by decide) rfl (stS hΩ 4 rfl) rfl ?_
    refine g_aload_n hX (dc_X3_addKind 12 rfl) rfl 0 rfl ?_
    refine g_getI hX (dc_X3_addKind 13 rfl) fl_X3_48 (by decide) rfl (stS hΩ 4 rfl) ?_
    refine g_iload_n hX (dc_X3_addKind 14 rfl) rfl 2 rfl ?_
    refine g_chk (fun hc6 => ?_)
    refine g_iast hX (dc_X3_addKind 15 rfl) (stS hΩ 6 rfl) hc6 rfl ?_
    refine g_aload_n hX (dc_X3_addKind 16 rfl) rfl 0 rfl ?_
    refine g_dup hX (dc_X3_addKind 17 rfl) rfl ?_
    refine g_getI hX (dc_X3_addKind 18 rfl) fl_X3_48 (by decide) rfl (stS hΩ 4 rfl) ?_
    refine g_iconst (w := (1 : Int32)) hX (dc_X3_addKind 19 rfl) (by decide) ?_
    refine g_iadd hX (dc_X3_addKind 20 rfl) ?_
    refine g_putI (raw := false) hX (dc_X3_addKind 21 rfl) fl_X3_48 (by decide) ⟨rfl, rfl⟩ ⟨rfl, rfl⟩ (stS hΩ 4 rfl) ?_
    exact g_sub [] rfl (c_X3_addKind_38 hX hO hΩ (wI (wI (wI σ 5 (ix (sI σ 4 2)) x1) 6 (ix (sI (wI σ 5 (ix (sI σ 4 2)) x1) 4 2)) x2) 4 2 ((sI (wI (wI σ 5 (ix (sI σ 4 2)) x1) 6 (ix (sI (wI σ 5 (ix (sI σ 4 2)) x1) 4 2)) x2) 4 2) + (1 : Int32))))
def f_X3_addKind (x1 : Int32) (x2 : Int32) (σ : MS) : Option (MS) := b_X3_addKind_0  x1 x2 σ
theorem con_X3_addKind {Ω : OM} (hO : OKO Ω) (hΩ : oSH Ω = SHX) (x1 : Int32) (x2 : Int32) (σ : MS)  : Con Ω yX3_addKind cX3_addKind 3 none rm_X3_addKind (emWV) [.ref 4, .int x1, .int x2] σ (f_X3_addKind x1 x2 σ) :=
  con_of hO (by decide +kernel) (Nat.le_of_ble_eq_true rfl) rfl (fun X hX _ => c_X3_addKind_0 hX hO hΩ   x1 x2 σ )
def it_X2_readKind : List (Nat × Instr × Nat × Nat) := [(0, .aload_n 0, 1, 1), (1, .iconst 0, 1, 2), (2, .bipush 99, 2, 4), (4, .invokevirtual 105, 3, 7), (7, .istore_n 1, 1, 8), (8, .aload_n 0, 1, 9), (9, .iconst 0, 1, 10), (10, .bipush 9, 2, 12), (12, .invokevirtual 105, 3, 15), (15, .istore_n 2, 1, 16), (16, .aload_n 0, 1, 17), (17, .getfield 23, 3, 20), (20, .getfield 55, 3, 23), (23, .ifCond .ne 12, 3, 26), (26, .aload_n 0, 1, 27), (27, .getfield 12, 3, 30), (30, .iload_n 1, 1, 31), (31, .iload_n 2, 1, 32), (32, .invokevirtual 121, 3, 35), (35, .return_, 1, 36)]
theorem id_X2_readKind : ∀ q ∈ it_X2_readKind, decode cX2_readKind q.1 = .ok (q.2.1, q.2.2.1) ∧ q.1 + q.2.2.1 = q.2.2.2 := by decide +kernel
theorem dc_X2_readKind {pc : Nat} {i : Instr} {n pc' : Nat} (j : Nat) (h : it_X2_readKind[j]? = some (pc, i, n, pc')) : Dc cX2_readKind pc i n pc' := dc_of id_X2_readKind j h
abbrev rm_X2_readKind : Room := { frames := 4, cells := 0, slots := 0, locals := 85 }
def b_X2_readKind_35     (σ : MS) : Option (MS) := some (σ)
set_option maxHeartbeats 4000000 in
set_option maxRecDepth 20000 in
theorem c_X2_readKind_35 {X : CX} {Ω : OM} (hX : CF X Ω RX2 cX2_readKind 3 none rm_X2_readKind) (hO : OKO Ω) (hΩ : oSH Ω = SHX)      (σ : MS)  : GE X Ω 3 0 0 (emWV) 0 0 35 [] [] σ (b_X2_readKind_35  σ) := by
  unfold b_X2_readKind_35
  exact g_vret hX (dc_X2_readKind 19 rfl) rfl (Nat.le_refl _) (Nat.le_refl _)
def b_X2_readKind_0     (σ : MS) : Option (MS) := (f_X2_readNumber (0 : Int32) (99 : Int32) σ).bind (fun r5 => (f_X2_readNumber (0 : Int32) (9 : Int32) r5.2).bind (fun r6 => (if (sI r6.2 16 6) = 0 then (f_X3_addKind r5.1 r6.1 r6.2).bind (fun r8 => (b_X2_readKind_35 r8)) else (b_X2_readKind_35 r6.2))))
set_option maxHeartbeats 4000000 in
set_option maxRecDepth 20000 in
theorem c_X2_readKind_0 {X : CX} {Ω : OM} (hX : CF X Ω RX2 cX2_readKind 3 none rm_X2_readKind) (hO : OKO Ω) (hΩ : oSH Ω = SHX)      (σ : MS)  : GE X Ω 3 0 0 (emWV) 0 0 0 [(0, .ref 3)] [] σ (b_X2_readKind_0  σ) := by
  unfold b_X2_readKind_0
  refine g_aload_n hX (dc_X2_readKind 0 rfl) rfl 0 rfl ?_
  refine g_iconst (w := (0 : Int32)) hX (dc_X2_readKind 1 rfl) (by decide) ?_
  refine g_bipush (w := (99 : Int32)) hX (dc_X2_readKind 2 rfl) (by decide) ?_
  refine gV_WI (As := [.int (0 : Int32), .int (99 : Int32)]) (st := []) hX (dc_X2_readKind 3 rfl) ml_X2_105 (con_X2_readNumber hO hΩ (0 : Int32) (99 : Int32) σ) (stS hΩ 3 rfl) rfl rfl ⟨by decide, by decide⟩ ⟨rfl, rfl⟩ ⟨Nat.zero_le _, Nat.zero_le _⟩ (Nat.le_of_ble_eq_true rfl) (fun r5 _ => ?_)
  refine g_istore_n (L' := [(1, .int r5.1), (0, .ref 3)]) hX (dc_X2_readKind 4 rfl) rfl (by decide) rfl ?_
  refine g_aload_n hX (dc_X2_readKind 5 rfl) rfl 1 rfl ?_
  refine g_iconst (w := (0 : Int32)) hX (dc_X2_readKind 6 rfl) (by decide) ?_
  refine g_bipush (w := (9 : Int32)) hX (dc_X2_readKind 7 rfl) (by decide) ?_
  refine gV_WI (As := [.int (0 : Int32), .int (9 : Int32)]) (st := []) hX (dc_X2_readKind 8 rfl) ml_X2_105 (con_X2_readNumber hO hΩ (0 : Int32) (9 : Int32) r5.2) (stS hΩ 3 rfl) rfl rfl ⟨by decide, by decide⟩ ⟨rfl, rfl⟩ ⟨Nat.zero_le _, Nat.zero_le _⟩ (Nat.le_of_ble_eq_true rfl) (fun r6 _ => ?_)
  refine g_istore_n (L' := [(2, .int r6.1), (1, .int r5.1), (0, .ref 3)]) hX (dc_X2_readKind 9 rfl) rfl (by decide) rfl ?_
  refine g_aload_n hX (dc_X2_readKind 10 rfl) rfl 2 rfl ?_
  refine g_getF (q := 16) hX (dc_X2_readKind 11 rfl) fl_X2_23 (by decide) rfl (stS hΩ 3 rfl) rfl ?_
  refine g_getI hX (dc_X2_readKind 12 rfl) fl_X2_55 (by decide) rfl (stS hΩ 16 rfl) ?_
  refine g_if_ne (tgt := 35) hX (dc_X2_readKind 13 rfl) (by decide) (fun h7 => ?_) (fun h7 => ?_)
  · refine g_aload_n hX (dc_X2_readKind 14 rfl) rfl 2 rfl ?_
    refine g_getF (q := 4) hX (dc_X2_readKind 15 rfl) fl_X2_12 (by decide) rfl (stS hΩ 3 rfl) rfl ?_
    refine g_iload_n hX (dc_X2_readKind 16 rfl) rfl 1 rfl ?_
    refine g_iload_n hX (dc_X2_readKind 17 rfl) rfl 0 rfl ?_
    refine gV_WV (As := [.int r5.1, .int r6.1]) (st := []) hX (dc_X2_readKind 18 rfl) ml_X2_121 (con_X3_addKind hO hΩ r5.1 r6.1 r6.2) (stS hΩ 4 rfl) rfl rfl ⟨by decide, by decide⟩ ⟨rfl, rfl⟩ ⟨Nat.zero_le _, Nat.zero_le _⟩ (Nat.le_of_ble_eq_true rfl) (fun r8 _ => ?_)
    exact g_sub [] rfl (c_X2_readKind_35 hX hO hΩ r8)
  · exact g_sub [] rfl (c_X2_readKind_35 hX hO hΩ r6.2)
def f_X2_readKind  (σ : MS) : Option (MS) := b_X2_readKind_0   σ
theorem con_X2_readKind {Ω : OM} (hO : OKO Ω) (hΩ : oSH Ω = SHX)  (σ : MS)  : Con Ω yX2_readKind cX2_readKind 3 none rm_X2_readKind (emWV) [.ref 3] σ (f_X2_readKind  σ) :=
  con_of hO (by decide +kernel) (Nat.le_of_ble_eq_true rfl) rfl (fun X hX _ => c_X2_readKind_0 hX hO hΩ    σ )
def it_X3_addPerson : List (Nat × Instr × Nat × Nat) := [(0, .aload_n 0, 1, 1), (1, .getfield 51, 3, 4), (4, .iconst 4, 1, 5), (5, .if_icmp .ge 57, 3, 8), (8, .aload_n 0, 1, 9), (9, .getfield 36, 3, 12), (12, .getfield 70, 3, 15), (15, .aload_n 0, 1, 16), (16, .getfield 51, 3, 19), (19, .iload_n 1, 1, 20), (20, .iastore, 1, 21), (21, .aload_n 0, 1, 22), (22, .getfield 18, 3, 25), (25, .aload_n 0, 1, 26), (26, .getfield 51, 3, 29), (29, .iload_n 2, 1, 30), (30, .iastore, 1, 31), (31, .aload_n 0, 1, 32), (32, .getfield 21, 3, 35), (35, .aload_n 0, 1, 36), (36, .getfield 51, 3, 39), (39, .iload_n 3, 1, 40), (40, .iastore, 1, 41), (41, .aload_n 0, 1, 42), (42, .getfield 24, 3, 45), (45, .aload_n 0, 1, 46), (46, .getfield 51, 3, 49), (49, .iload 4, 2, 51), (51, .iastore, 1, 52), (52, .aload_n 0, 1, 53), (53, .dup, 1, 54), (54, .getfield 51, 3, 57), (57, .iconst 1, 1, 58), (58, .iadd, 1, 59), (59, .putfield 51, 3, 62), (62, .return_, 1, 63)]
theorem id_X3_addPerson : ∀ q ∈ it_X3_addPerson, decode cX3_addPerson q.1 = .ok (q.2.1, q.2.2.1) ∧ q.1 + q.2.2.1 = q.2.2.2 := by decide +kernel
theorem dc_X3_addPerson {pc : Nat} {i : Instr} {n pc' : Nat} (j : Nat) (h : it_X3_addPerson[j]? = some (pc, i, n, pc')) : Dc cX3_addPerson pc i n pc' := dc_of id_X3_addPerson j h
abbrev rm_X3_addPerson : Room := { frames := 0, cells := 0, slots := 0, locals := 0 }
def b_X3_addPerson_62     (σ : MS) : Option (MS) := some (σ)
set_option maxHeartbeats 4000000 in
set_option maxRecDepth 20000 in
theorem c_X3_addPerson_62 {X : CX} {Ω : OM} (hX : CF X Ω RX3 cX3_addPerson 5 none rm_X3_addPerson) (hO : OKO Ω) (hΩ : oSH Ω = SHX)      (σ : MS)  : GE X Ω 5 0 0 (emWV) 0 0 62 [] [] σ (b_X3_addPerson_62  σ) := by
  unfold b_X3_addPerson_62
  exact g_vret hX (dc_X3_addPerson 35 rfl) rfl (Nat.le_refl _) (Nat.le_refl _)
def b_X3_addPerson_41    (y4 : Int32) (σ : MS) : Option (MS) := chk (inb (sI σ 4 3) 4) ((b_X3_addPerson_62 (wI (wI σ 9 (ix (sI σ 4 3)) y4) 4 3 ((sI (wI σ 9 (ix (sI σ 4 3)) y4) 4 3) + (1 : Int32)))))
set_option maxHeartbeats 4000000 in
set_option maxRecDepth 20000 in
theorem c_X3_addPerson_41 {X : CX} {Ω : OM} (hX : CF X Ω RX3 cX3_addPerson 5 none rm_X3_addPerson) (hO : OKO Ω) (hΩ : oSH Ω = SHX)     (y4 : Int32) (σ : MS)  : GE X Ω 5 0 0 (emWV) 0 0 41 [(0, .ref 4), (4, .int y4)] [] σ (b_X3_addPerson_41  y4 σ) := by
  unfold b_X3_addPerson_41
  refine g_aload_n hX (dc_X3_addPerson 23 rfl) rfl 0 rfl ?_
  refine g_getF (q := 9) hX (dc_X3_addPerson 24 rfl) fl_X3_24 (by decide) rfl (stS hΩ 4 rfl) rfl ?_
  refine g_aload_n hX (dc_X3_addPerson 25 rfl) rfl 0 rfl ?_
  refine g_getI hX (dc_X3_addPerson 26 rfl) fl_X3_51 (by decide) rfl (stS hΩ 4 rfl) ?_
  refine g_iload hX (dc_X3_addPerson 27 rfl) 1 rfl ?_
  refine g_chk (fun hc6 => ?_)
  refine g_iast hX (dc_X3_addPerson 28 rfl) (stS hΩ 9 rfl) hc6 rfl ?_
  refine g_aload_n hX (dc_X3_addPerson 29 rfl) rfl 0 rfl ?_
  refine g_dup hX (dc_X3_addPerson 30 rfl) rfl ?_
  refine g_getI hX (dc_X3_addPerson 31 rfl) fl_X3_51 (by decide) rfl (stS hΩ 4 rfl) ?_
  refine g_iconst (w := (1 : Int32)) hX (dc_X3_addPerson 32 rfl) (by decide) ?_
  refine g_iadd hX (dc_X3_addPerson 33 rfl) ?_
  refine g_putI (raw := false) hX (dc_X3_addPerson 34 rfl) fl_X3_51 (by decide) ⟨rfl, rfl⟩ ⟨rfl, rfl⟩ (stS hΩ 4 rfl) ?_
  exact g_sub [] rfl (c_X3_addPerson_62 hX hO hΩ (wI (wI σ 9 (ix (sI σ 4 3)) y4) 4 3 ((sI (wI σ 9 (ix (sI σ 4 3)) y4) 4 3) + (1 : Int32))))
def b_X3_addPerson_0   (x1 : Int32) (x2 : Int32) (x3 : Int32) (x4 : Int32)  (σ : MS) : Option (MS) := (if (4 : Int32) ≤ (sI σ 4 3) then (b_X3_addPerson_62 σ) else chk (inb (sI σ 4 3) 4) (chk (inb (sI (wI σ 15 (ix (sI σ 4 3)) x1) 4 3) 4) (chk (inb (sI (wI (wI σ 15 (ix (sI σ 4 3)) x1) 7 (ix (sI (wI σ 15 (ix (sI σ 4 3)) x1) 4 3)) x2) 4 3) 4) ((b_X3_addPerson_41 (x4) (wI (wI (wI σ 15 (ix (sI σ 4 3)) x1) 7 (ix (sI (wI σ 15 (ix (sI σ 4 3)) x1) 4 3)) x2) 8 (ix (sI (wI (wI σ 15 (ix (sI σ 4 3)) x1) 7 (ix (sI (wI σ 15 (ix (sI σ 4 3)) x1) 4 3)) x2) 4 3)) x3))))))
set_option maxHeartbeats 4000000 in
set_option maxRecDepth 20000 in
theorem c_X3_addPerson_0 {X : CX} {Ω : OM} (hX : CF X Ω RX3 cX3_addPerson 5 none rm_X3_addPerson) (hO : OKO Ω) (hΩ : oSH Ω = SHX)    (x1 : Int32) (x2 : Int32) (x3 : Int32) (x4 : Int32)  (σ : MS)  : GE X Ω 5 0 0 (emWV) 0 0 0 [(0, .ref 4), (1, .int x1), (2, .int x2), (3, .int x3), (4, .int x4)] [] σ (b_X3_addPerson_0  x1 x2 x3 x4 σ) := by
  unfold b_X3_addPerson_0
  refine g_aload_n hX (dc_X3_addPerson 0 rfl) rfl 0 rfl ?_
  refine g_getI hX (dc_X3_addPerson 1 rfl) fl_X3_51 (by decide) rfl (stS hΩ 4 rfl) ?_
  refine g_iconst (w := (4 : Int32)) hX (dc_X3_addPerson 2 rfl) (by decide) ?_
  refine g_icmp_ge (tgt := 62) hX (dc_X3_addPerson 3 rfl) (by decide) (fun h7 => ?_) (fun h7 => ?_)
  · exact g_sub [] rfl (c_X3_addPerson_62 hX hO hΩ σ)
  · refine g_aload_n hX (dc_X3_addPerson 4 rfl) rfl 0 rfl ?_
    refine g_getF (q := 12) hX (dc_X3_addPerson 5 rfl) fl_X3_36 (by decide) rfl (stS hΩ 4 rfl) rfl ?_
    refine g_getF (q := 15) hX (dc_X3_addPerson 6 rfl) fl_X3_70 (by decide) rfl (stS hΩ 12 rfl) rfl ?_
    refine g_aload_n hX (dc_X3_addPerson 7 rfl) rfl 0 rfl ?_
    refine g_getI hX (dc_X3_addPerson 8 rfl) fl_X3_51 (by decide) rfl (stS hΩ 4 rfl) ?_
    refine g_iload_n hX (dc_X3_addPerson 9 rfl) rfl 1 rfl ?_
    refine g_chk (fun hc8 => ?_)
    refine g_iast hX (dc_X3_addPerson 10 rfl) (stS hΩ 15 rfl) hc8 rfl ?_
    refine g_aload_n hX (dc_X3_addPerson 11 rfl) rfl 0 rfl ?_
    refine g_getF (q := 7) hX (dc_X3_addPerson 12 rfl) fl_X3_18 (by decide) rfl (stS hΩ 4 rfl) rfl ?_
    refine g_aload_n hX (dc_X3_addPerson 13 rfl) rfl 0 rfl ?_
    refine g_getI hX (dc_X3_addPerson 14 rfl) fl_X3_51 (by decide) rfl (stS hΩ 4 rfl) ?_
    refine g_iload_n hX (dc_X3_addPerson 15 rfl) rfl 2 rfl ?_
    refine g_chk (fun hc9 => ?_)
    refine g_iast hX (dc_X3_addPerson 16 rfl) (stS hΩ 7 rfl) hc9 rfl ?_
    refine g_aload_n hX (dc_X3_addPerson 17 rfl) rfl 0 rfl ?_
    refine g_getF (q := 8) hX (dc_X3_addPerson 18 rfl) fl_X3_21 (by decide) rfl (stS hΩ 4 rfl) rfl ?_
    refine g_aload_n hX (dc_X3_addPerson 19 rfl) rfl 0 rfl ?_
    refine g_getI hX (dc_X3_addPerson 20 rfl) fl_X3_51 (by decide) rfl (stS hΩ 4 rfl) ?_
    refine g_iload_n hX (dc_X3_addPerson 21 rfl) rfl 3 rfl ?_
    refine g_chk (fun hc10 => ?_)
    refine g_iast hX (dc_X3_addPerson 22 rfl) (stS hΩ 8 rfl) hc10 rfl ?_
    exact g_sub [0, 4] rfl (c_X3_addPerson_41 hX hO hΩ (x4) (wI (wI (wI σ 15 (ix (sI σ 4 3)) x1) 7 (ix (sI (wI σ 15 (ix (sI σ 4 3)) x1) 4 3)) x2) 8 (ix (sI (wI (wI σ 15 (ix (sI σ 4 3)) x1) 7 (ix (sI (wI σ 15 (ix (sI σ 4 3)) x1) 4 3)) x2) 4 3)) x3))
def f_X3_addPerson (x1 : Int32) (x2 : Int32) (x3 : Int32) (x4 : Int32) (σ : MS) : Option (MS) := b_X3_addPerson_0  x1 x2 x3 x4 σ
theorem con_X3_addPerson {Ω : OM} (hO : OKO Ω) (hΩ : oSH Ω = SHX) (x1 : Int32) (x2 : Int32) (x3 : Int32) (x4 : Int32) (σ : MS)  : Con Ω yX3_addPerson cX3_addPerson 5 none rm_X3_addPerson (emWV) [.ref 4, .int x1, .int x2, .int x3, .int x4] σ (f_X3_addPerson x1 x2 x3 x4 σ) :=
  con_of hO (by decide +kernel) (Nat.le_of_ble_eq_true rfl) rfl (fun X hX _ => c_X3_addPerson_0 hX hO hΩ   x1 x2 x3 x4 σ )
def it_X2_readPerson : List (Nat × Instr × Nat × Nat) := [(0, .aload_n 0, 1, 1), (1, .iconst 0, 1, 2), (2, .sipush 999, 3, 5), (5, .invokevirtual 105, 3, 8), (8, .istore_n 1, 1, 9), (9, .aload_n 0, 1, 10), (10, .iconst 0, 1, 11), (11, .bipush 23, 2, 13), (13, .invokevirtual 105, 3, 16), (16, .istore_n 2, 1, 17), (17, .aload_n 0, 1, 18), (18, .iconst 0, 1, 19), (19, .bipush 24, 2, 21), (21, .invokevirtual 105, 3, 24), (24, .istore_n 3, 1, 25), (25, .aload_n 0, 1, 26), (26, .iconst 1, 1, 27), (27, .iconst 3, 1, 28), (28, .invokevirtual 105, 3, 31), (31, .istore 4, 2, 33), (33, .aload_n 0, 1, 34), (34, .getfield 23, 3, 37), (37, .getfield 55, 3, 40), (40, .ifCond .ne 15, 3, 43), (43, .aload_n 0, 1, 44), (44, .getfield 12, 3, 47), (47, .iload_n 1, 1, 48), (48, .iload_n 2, 1, 49), (49, .iload_n 3, 1, 50), (50, .iload 4, 2, 52), (52, .invokevirtual 125, 3, 55), (55, .return_, 1, 56)]
theorem id_X2_readPerson : ∀ q ∈ it_X2_readPerson, decode cX2_readPerson q.1 = .ok (q.2.1, q.2.2.1) ∧ q.1 + q.2.2.1 = q.2.2.2 := by decide +kernel
theorem dc_X2_readPerson {pc : Nat} {i : Instr} {n pc' : Nat} (j : Nat) (h : it_X2_readPerson[j]? = some (pc, i, n, pc')) : Dc cX2_readPerson pc i n pc' := dc_of id_X2_readPerson j h
abbrev rm_X2_readPerson : Room := { frames := 4, cells := 0, slots := 0, locals := 85 }
def b_X2_readPerson_55     (σ : MS) : Option (MS) := some (σ)
set_option maxHeartbeats 4000000 in
set_option maxRecDepth 20000 in
theorem c_X2_readPerson_55 {X : CX} {Ω : OM} (hX : CF X Ω RX2 cX2_readPerson 5 none rm_X2_readPerson) (hO : OKO Ω) (hΩ : oSH Ω = SHX)      (σ : MS)  : GE X Ω 5 0 0 (emWV) 0 0 55 [] [] σ (b_X2_readPerson_55  σ) := by
  unfold b_X2_readPerson_55
  exact g_vret hX (dc_X2_readPerson 31 rfl) rfl (Nat.le_refl _) (Nat.le_refl _)
def b_X2_readPerson_0     (σ : MS) : Option (MS) := (f_X2_readNumber (0 : Int32) (999 : Int32) σ).bind (fun r7 => (f_X2_readNumber (0 : Int32) (23 : Int32) r7.2).bind (fun r8 => (f_X2_readNumber (0 : Int32) (24 : Int32) r8.2).bind (fun r9 => (f_X2_readNumber (1 : Int32) (3 : Int32) r9.2).bind (fun r10 => (if (sI r10.2 16 6) = 0 then (f_X3_addPerson r7.1 r8.1 r9.1 r10.1 r10.2).bind (fun r12 => (b_X2_readPerson_55 r12)) else (b_X2_readPerson_55 r10.2))))))
set_option maxHeartbeats 4000000 in
set_option maxRecDepth 20000 in
theorem c_X2_readPerson_0 {X : CX} {Ω : OM} (hX : CF X Ω RX2 cX2_readPerson 5 none rm_X2_readPerson) (hO : OKO Ω) (hΩ : oSH Ω = SHX)      (σ : MS)  : GE X Ω 5 0 0 (emWV) 0 0 0 [(0, .ref 3)] [] σ (b_X2_readPerson_0  σ) := by
  unfold b_X2_readPerson_0
  refine g_aload_n hX (dc_X2_readPerson 0 rfl) rfl 0 rfl ?_
  refine g_iconst (w := (0 : Int32)) hX (dc_X2_readPerson 1 rfl) (by decide) ?_
  refine g_sipush (w := (999 : Int32)) hX (dc_X2_readPerson 2 rfl) (by decide) ?_
  refine gV_WI (As := [.int (0 : Int32), .int (999 : Int32)]) (st := []) hX (dc_X2_readPerson 3 rfl) ml_X2_105 (con_X2_readNumber hO hΩ (0 : Int32) (999 : Int32) σ) (stS hΩ 3 rfl) rfl rfl ⟨by decide, by decide⟩ ⟨rfl, rfl⟩ ⟨Nat.zero_le _, Nat.zero_le _⟩ (Nat.le_of_ble_eq_true rfl) (fun r7 _ => ?_)
  refine g_istore_n (L' := [(1, .int r7.1), (0, .ref 3)]) hX (dc_X2_readPerson 4 rfl) rfl (by decide) rfl ?_
  refine g_aload_n hX (dc_X2_readPerson 5 rfl) rfl 1 rfl ?_
  refine g_iconst (w := (0 : Int32)) hX (dc_X2_readPerson 6 rfl) (by decide) ?_
  refine g_bipush (w := (23 : Int32)) hX (dc_X2_readPerson 7 rfl) (by decide) ?_
  refine gV_WI (As := [.int (0 : Int32), .int (23 : Int32)]) (st := []) hX (dc_X2_readPerson 8 rfl) ml_X2_105 (con_X2_readNumber hO hΩ (0 : Int32) (23 : Int32) r7.2) (stS hΩ 3 rfl) rfl rfl ⟨by decide, by decide⟩ ⟨rfl, rfl⟩ ⟨Nat.zero_le _, Nat.zero_le _⟩ (Nat.le_of_ble_eq_true rfl) (fun r8 _ => ?_)
  refine g_istore_n (L' := [(2, .int r8.1), (1, .int r7.1), (0, .ref 3)]) hX (dc_X2_readPerson 9 rfl) rfl (by decide) rfl ?_
  refine g_aload_n hX (dc_X2_readPerson 10 rfl) rfl 2 rfl ?_
  refine g_iconst (w := (0 : Int32)) hX (dc_X2_readPerson 11 rfl) (by decide) ?_
  refine g_bipush (w := (24 : Int32)) hX (dc_X2_readPerson 12 rfl) (by decide) ?_
  refine gV_WI (As := [.int (0 : Int32), .int (24 : Int32)]) (st := []) hX (dc_X2_readPerson 13 rfl) ml_X2_105 (con_X2_readNumber hO hΩ (0 : Int32) (24 : Int32) r8.2) (stS hΩ 3 rfl) rfl rfl ⟨by decide, by decide⟩ ⟨rfl, rfl⟩ ⟨Nat.zero_le _, Nat.zero_le _⟩ (Nat.le_of_ble_eq_true rfl) (fun r9 _ => ?_)
  refine g_istore_n (L' := [(3, .int r9.1), (2, .int r8.1), (1, .int r7.1), (0, .ref 3)]) hX (dc_X2_readPerson 14 rfl) rfl (by decide) rfl ?_
  refine g_aload_n hX (dc_X2_readPerson 15 rfl) rfl 3 rfl ?_
  refine g_iconst (w := (1 : Int32)) hX (dc_X2_readPerson 16 rfl) (by decide) ?_
  refine g_iconst (w := (3 : Int32)) hX (dc_X2_readPerson 17 rfl) (by decide) ?_
  refine gV_WI (As := [.int (1 : Int32), .int (3 : Int32)]) (st := []) hX (dc_X2_readPerson 18 rfl) ml_X2_105 (con_X2_readNumber hO hΩ (1 : Int32) (3 : Int32) r9.2) (stS hΩ 3 rfl) rfl rfl ⟨by decide, by decide⟩ ⟨rfl, rfl⟩ ⟨Nat.zero_le _, Nat.zero_le _⟩ (Nat.le_of_ble_eq_true rfl) (fun r10 _ => ?_)
  refine g_istore (L' := [(4, .int r10.1), (3, .int r9.1), (2, .int r8.1), (1, .int r7.1), (0, .ref 3)]) hX (dc_X2_readPerson 19 rfl) (by decide) rfl ?_
  refine g_aload_n hX (dc_X2_readPerson 20 rfl) rfl 4 rfl ?_
  refine g_getF (q := 16) hX (dc_X2_readPerson 21 rfl) fl_X2_23 (by decide) rfl (stS hΩ 3 rfl) rfl ?_
  refine g_getI hX (dc_X2_readPerson 22 rfl) fl_X2_55 (by decide) rfl (stS hΩ 16 rfl) ?_
  refine g_if_ne (tgt := 55) hX (dc_X2_readPerson 23 rfl) (by decide) (fun h11 => ?_) (fun h11 => ?_)
  · refine g_aload_n hX (dc_X2_readPerson 24 rfl) rfl 4 rfl ?_
    refine g_getF (q := 4) hX (dc_X2_readPerson 25 rfl) fl_X2_12 (by decide) rfl (stS hΩ 3 rfl) rfl ?_
    refine g_iload_n hX (dc_X2_readPerson 26 rfl) rfl 3 rfl ?_
    refine g_iload_n hX (dc_X2_readPerson 27 rfl) rfl 2 rfl ?_
    refine g_iload_n hX (dc_X2_readPerson 28 rfl) rfl 1 rfl ?_
    refine g_iload hX (dc_X2_readPerson 29 rfl) 0 rfl ?_
    refine gV_WV (As := [.int r7.1, .int r8.1, .int r9.1, .int r10.1]) (st := []) hX (dc_X2_readPerson 30 rfl) ml_X2_125 (con_X3_addPerson hO hΩ r7.1 r8.1 r9.1 r10.1 r10.2) (stS hΩ 4 rfl) rfl rfl ⟨by decide, by decide⟩ ⟨rfl, rfl⟩ ⟨Nat.zero_le _, Nat.zero_le _⟩ (Nat.le_of_ble_eq_true rfl) (fun r12 _ => ?_)
    exact g_sub [] rfl (c_X2_readPerson_55 hX hO hΩ r12)
  · exact g_sub [] rfl (c_X2_readPerson_55 hX hO hΩ r10.2)
def f_X2_readPerson  (σ : MS) : Option (MS) := b_X2_readPerson_0   σ
theorem con_X2_readPerson {Ω : OM} (hO : OKO Ω) (hΩ : oSH Ω = SHX)  (σ : MS)  : Con Ω yX2_readPerson cX2_readPerson 5 none rm_X2_readPerson (emWV) [.ref 3] σ (f_X2_readPerson  σ) :=
  con_of hO (by decide +kernel) (Nat.le_of_ble_eq_true rfl) rfl (fun X hX _ => c_X2_readPerson_0 hX hO hΩ    σ )
def it_X3_addWork : List (Nat × Instr × Nat × Nat) := [(0, .aload_n 0, 1, 1), (1, .getfield 54, 3, 4), (4, .bipush 6, 2, 6), (6, .if_icmp .ge 33, 3, 9), (9, .aload_n 0, 1, 10), (10, .getfield 27, 3, 13), (13, .aload_n 0, 1, 14), (14, .getfield 54, 3, 17), (17, .iload_n 1, 1, 18), (18, .iastore, 1, 19), (19, .aload_n 0, 1, 20), (20, .getfield 30, 3, 23), (23, .aload_n 0, 1, 24), (24, .getfield 54, 3, 27), (27, .iconst 0, 1, 28), (28, .iastore, 1, 29), (29, .aload_n 0, 1, 30), (30, .dup, 1, 31), (31, .getfield 54, 3, 34), (34, .iconst 1, 1, 35), (35, .iadd, 1, 36), (36, .putfield 54, 3, 39), (39, .return_, 1, 40)]
theorem id_X3_addWork : ∀ q ∈ it_X3_addWork, decode cX3_addWork q.1 = .ok (q.2.1, q.2.2.1) ∧ q.1 + q.2.2.1 = q.2.2.2 := by decide +kernel
theorem dc_X3_addWork {pc : Nat} {i : Instr} {n pc' : Nat} (j : Nat) (h : it_X3_addWork[j]? = some (pc, i, n, pc')) : Dc cX3_addWork pc i n pc' := dc_of id_X3_addWork j h
abbrev rm_X3_addWork : Room := { frames := 0, cells := 0, slots := 0, locals := 0 }
def b_X3_addWork_39     (σ : MS) : Option (MS) := some (σ)
set_option maxHeartbeats 4000000 in
set_option maxRecDepth 20000 in
theorem c_X3_addWork_39 {X : CX} {Ω : OM} (hX : CF X Ω RX3 cX3_addWork 2 none rm_X3_addWork) (hO : OKO Ω) (hΩ : oSH Ω = SHX)      (σ : MS)  : GE X Ω 2 0 0 (emWV) 0 0 39 [] [] σ (b_X3_addWork_39  σ) := by
  unfold b_X3_addWork_39
  exact g_vret hX (dc_X3_addWork 22 rfl) rfl (Nat.le_refl _) (Nat.le_refl _)
def b_X3_addWork_0   (x1 : Int32)  (σ : MS) : Option (MS) := (if (6 : Int32) ≤ (sI σ 4 4) then (b_X3_addWork_39 σ) else chk (inb (sI σ 4 4) 6) (chk (inb (sI (wI σ 10 (ix (sI σ 4 4)) x1) 4 4) 6) ((b_X3_addWork_39 (wI (wI (wI σ 10 (ix (sI σ 4 4)) x1) 11 (ix (sI (wI σ 10 (ix (sI σ 4 4)) x1) 4 4)) (0 : Int32)) 4 4 ((sI (wI (wI σ 10 (ix (sI σ 4 4)) x1) 11 (ix (sI (wI σ 10 (ix (sI σ 4 4)) x1) 4 4)) (0 : Int32)) 4 4) + (1 : Int32)))))))
set_option maxHeartbeats 4000000 in
set_option maxRecDepth 20000 in
theorem c_X3_addWork_0 {X : CX} {Ω : OM} (hX : CF X Ω RX3 cX3_addWork 2 none rm_X3_addWork) (hO : OKO Ω) (hΩ : oSH Ω = SHX)    (x1 : Int32)  (σ : MS)  : GE X Ω 2 0 0 (emWV) 0 0 0 [(0, .ref 4), (1, .int x1)] [] σ (b_X3_addWork_0  x1 σ) := by
  unfold b_X3_addWork_0
  refine g_aload_n hX (dc_X3_addWork 0 rfl) rfl 0 rfl ?_
  refine g_getI hX (dc_X3_addWork 1 rfl) fl_X3_54 (by decide) rfl (stS hΩ 4 rfl) ?_
  refine g_bipush (w := (6 : Int32)) hX (dc_X3_addWork 2 rfl) (by decide) ?_
  refine g_icmp_ge (tgt := 39) hX (dc_X3_addWork 3 rfl) (by decide) (fun h4 => ?_) (fun h4 => ?_)
  · exact g_sub [] rfl (c_X3_addWork_39 hX hO hΩ σ)
  · refine g_aload_n hX (dc_X3_addWork 4 rfl) rfl 0 rfl ?_
    refine g_getF (q := 10) hX (dc_X3_addWork 5 rfl) fl_X3_27 (by decide) rfl (stS hΩ 4 rfl) rfl ?_
    refine g_aload_n hX (dc_X3_addWork 6 rfl) rfl 0 rfl ?_
    refine g_getI hX (dc_X3_addWork 7 rfl) fl_X3_54 (by decide) rfl (stS hΩ 4 rfl) ?_
    refine g_iload_n hX (dc_X3_addWork 8 rfl) rfl 1 rfl ?_
    refine g_chk (fun hc5 => ?_)
    refine g_iast hX (dc_X3_addWork 9 rfl) (stS hΩ 10 rfl) hc5 rfl ?_
    refine g_aload_n hX (dc_X3_addWork 10 rfl) rfl 0 rfl ?_
    refine g_getF (q := 11) hX (dc_X3_addWork 11 rfl) fl_X3_30 (by decide) rfl (stS hΩ 4 rfl) rfl ?_
    refine g_aload_n hX (dc_X3_addWork 12 rfl) rfl 0 rfl ?_
    refine g_getI hX (dc_X3_addWork 13 rfl) fl_X3_54 (by decide) rfl (stS hΩ 4 rfl) ?_
    refine g_iconst (w := (0 : Int32)) hX (dc_X3_addWork 14 rfl) (by decide) ?_
    refine g_chk (fun hc6 => ?_)
    refine g_iast hX (dc_X3_addWork 15 rfl) (stS hΩ 11 rfl) hc6 rfl ?_
    refine g_aload_n hX (dc_X3_addWork 16 rfl) rfl 0 rfl ?_
    refine g_dup hX (dc_X3_addWork 17 rfl) rfl ?_
    refine g_getI hX (dc_X3_addWork 18 rfl) fl_X3_54 (by decide) rfl (stS hΩ 4 rfl) ?_
    refine g_iconst (w := (1 : Int32)) hX (dc_X3_addWork 19 rfl) (by decide) ?_
    refine g_iadd hX (dc_X3_addWork 20 rfl) ?_
    refine g_putI (raw := false) hX (dc_X3_addWork 21 rfl) fl_X3_54 (by decide) ⟨rfl, rfl⟩ ⟨rfl, rfl⟩ (stS hΩ 4 rfl) ?_
    exact g_sub [] rfl (c_X3_addWork_39 hX hO hΩ (wI (wI (wI σ 10 (ix (sI σ 4 4)) x1) 11 (ix (sI (wI σ 10 (ix (sI σ 4 4)) x1) 4 4)) (0 : Int32)) 4 4 ((sI (wI (wI σ 10 (ix (sI σ 4 4)) x1) 11 (ix (sI (wI σ 10 (ix (sI σ 4 4)) x1) 4 4)) (0 : Int32)) 4 4) + (1 : Int32))))
def f_X3_addWork (x1 : Int32) (σ : MS) : Option (MS) := b_X3_addWork_0  x1 σ
theorem con_X3_addWork {Ω : OM} (hO : OKO Ω) (hΩ : oSH Ω = SHX) (x1 : Int32) (σ : MS)  : Con Ω yX3_addWork cX3_addWork 2 none rm_X3_addWork (emWV) [.ref 4, .int x1] σ (f_X3_addWork x1 σ) :=
  con_of hO (by decide +kernel) (Nat.le_of_ble_eq_true rfl) rfl (fun X hX _ => c_X3_addWork_0 hX hO hΩ   x1 σ )
def it_X2_readWork : List (Nat × Instr × Nat × Nat) := [(0, .aload_n 0, 1, 1), (1, .iconst 0, 1, 2), (2, .aload_n 0, 1, 3), (3, .getfield 12, 3, 6), (6, .getfield 90, 3, 9), (9, .iconst 1, 1, 10), (10, .isub, 1, 11), (11, .invokevirtual 105, 3, 14), (14, .istore_n 1, 1, 15), (15, .aload_n 0, 1, 16), (16, .getfield 23, 3, 19), (19, .getfield 55, 3, 22), (22, .ifCond .ne 11, 3, 25), (25, .aload_n 0, 1, 26), (26, .getfield 12, 3, 29), (29, .iload_n 1, 1, 30), (30, .invokevirtual 129, 3, 33), (33, .return_, 1, 34)]
theorem id_X2_readWork : ∀ q ∈ it_X2_readWork, decode cX2_readWork q.1 = .ok (q.2.1, q.2.2.1) ∧ q.1 + q.2.2.1 = q.2.2.2 := by decide +kernel
theorem dc_X2_readWork {pc : Nat} {i : Instr} {n pc' : Nat} (j : Nat) (h : it_X2_readWork[j]? = some (pc, i, n, pc')) : Dc cX2_readWork pc i n pc' := dc_of id_X2_readWork j h
abbrev rm_X2_readWork : Room := { frames := 4, cells := 0, slots := 0, locals := 85 }
def b_X2_readWork_33     (σ : MS) : Option (MS) := some (σ)
set_option maxHeartbeats 4000000 in
set_option maxRecDepth 20000 in
theorem c_X2_readWork_33 {X : CX} {Ω : OM} (hX : CF X Ω RX2 cX2_readWork 2 none rm_X2_readWork) (hO : OKO Ω) (hΩ : oSH Ω = SHX)      (σ : MS)  : GE X Ω 2 0 0 (emWV) 0 0 33 [] [] σ (b_X2_readWork_33  σ) := by
  unfold b_X2_readWork_33
  exact g_vret hX (dc_X2_readWork 17 rfl) rfl (Nat.le_refl _) (Nat.le_refl _)
def b_X2_readWork_0     (σ : MS) : Option (MS) := (f_X2_readNumber (0 : Int32) ((sI σ 4 2) - (1 : Int32)) σ).bind (fun r4 => (if (sI r4.2 16 6) = 0 then (f_X3_addWork r4.1 r4.2).bind (fun r6 => (b_X2_readWork_33 r6)) else (b_X2_readWork_33 r4.2)))
set_option maxHeartbeats 4000000 in
set_option maxRecDepth 20000 in
theorem c_X2_readWork_0 {X : CX} {Ω : OM} (hX : CF X Ω RX2 cX2_readWork 2 none rm_X2_readWork) (hO : OKO Ω) (hΩ : oSH Ω = SHX)      (σ : MS)  : GE X Ω 2 0 0 (emWV) 0 0 0 [(0, .ref 3)] [] σ (b_X2_readWork_0  σ) := by
  unfold b_X2_readWork_0
  refine g_aload_n hX (dc_X2_readWork 0 rfl) rfl 0 rfl ?_
  refine g_iconst (w := (0 : Int32)) hX (dc_X2_readWork 1 rfl) (by decide) ?_
  refine g_aload_n hX (dc_X2_readWork 2 rfl) rfl 0 rfl ?_
  refine g_getF (q := 4) hX (dc_X2_readWork 3 rfl) fl_X2_12 (by decide) rfl (stS hΩ 3 rfl) rfl ?_
  refine g_getI hX (dc_X2_readWork 4 rfl) fl_X2_90 (by decide) rfl (stS hΩ 4 rfl) ?_
  refine g_iconst (w := (1 : Int32)) hX (dc_X2_readWork 5 rfl) (by decide) ?_
  refine g_isub hX (dc_X2_readWork 6 rfl) ?_
  refine gV_WI (As := [.int (0 : Int32), .int ((sI σ 4 2) - (1 : Int32))]) (st := []) hX (dc_X2_readWork 7 rfl) ml_X2_105 (con_X2_readNumber hO hΩ (0 : Int32) ((sI σ 4 2) - (1 : Int32)) σ) (stS hΩ 3 rfl) rfl rfl ⟨by decide, by decide⟩ ⟨rfl, rfl⟩ ⟨Nat.zero_le _, Nat.zero_le _⟩ (Nat.le_of_ble_eq_true rfl) (fun r4 _ => ?_)
  refine g_istore_n (L' := [(1, .int r4.1), (0, .ref 3)]) hX (dc_X2_readWork 8 rfl) rfl (by decide) rfl ?_
  refine g_aload_n hX (dc_X2_readWork 9 rfl) rfl 1 rfl ?_
  refine g_getF (q := 16) hX (dc_X2_readWork 10 rfl) fl_X2_23 (by decide) rfl (stS hΩ 3 rfl) rfl ?_
  refine g_getI hX (dc_X2_readWork 11 rfl) fl_X2_55 (by decide) rfl (stS hΩ 16 rfl) ?_
  refine g_if_ne (tgt := 33) hX (dc_X2_readWork 12 rfl) (by decide) (fun h5 => ?_) (fun h5 => ?_)
  · refine g_aload_n hX (dc_X2_readWork 13 rfl) rfl 1 rfl ?_
    refine g_getF (q := 4) hX (dc_X2_readWork 14 rfl) fl_X2_12 (by decide) rfl (stS hΩ 3 rfl) rfl ?_
    refine g_iload_n hX (dc_X2_readWork 15 rfl) rfl 0 rfl ?_
    refine gV_WV (As := [.int r4.1]) (st := []) hX (dc_X2_readWork 16 rfl) ml_X2_129 (con_X3_addWork hO hΩ r4.1 r4.2) (stS hΩ 4 rfl) rfl rfl ⟨by decide, by decide⟩ ⟨rfl, rfl⟩ ⟨Nat.zero_le _, Nat.zero_le _⟩ (Nat.le_of_ble_eq_true rfl) (fun r6 _ => ?_)
    exact g_sub [] rfl (c_X2_readWork_33 hX hO hΩ r6)
  · exact g_sub [] rfl (c_X2_readWork_33 hX hO hΩ r4.2)
def f_X2_readWork  (σ : MS) : Option (MS) := b_X2_readWork_0   σ
theorem con_X2_readWork {Ω : OM} (hO : OKO Ω) (hΩ : oSH Ω = SHX)  (σ : MS)  : Con Ω yX2_readWork cX2_readWork 2 none rm_X2_readWork (emWV) [.ref 3] σ (f_X2_readWork  σ) :=
  con_of hO (by decide +kernel) (Nat.le_of_ble_eq_true rfl) rfl (fun X hX _ => c_X2_readWork_0 hX hO hΩ    σ )
def it_X2_readHeld : List (Nat × Instr × Nat × Nat) := [(0, .aload_n 0, 1, 1), (1, .iconst 0, 1, 2), (2, .aload_n 0, 1, 3), (3, .getfield 12, 3, 6), (6, .getfield 96, 3, 9), (9, .iconst 1, 1, 10), (10, .isub, 1, 11), (11, .invokevirtual 105, 3, 14), (14, .istore_n 1, 1, 15), (15, .aload_n 0, 1, 16), (16, .iconst 0, 1, 17), (17, .aload_n 0, 1, 18), (18, .getfield 12, 3, 21), (21, .getfield 93, 3, 24), (24, .iconst 1, 1, 25), (25, .isub, 1, 26), (26, .invokevirtual 105, 3, 29), (29, .istore_n 2, 1, 30), (30, .aload_n 0, 1, 31), (31, .getfield 23, 3, 34), (34, .getfield 55, 3, 37), (37, .ifCond .eq 4, 3, 40), (40, .return_, 1, 41), (41, .aload_n 0, 1, 42), (42, .getfield 12, 3, 45), (45, .getfield 112, 3, 48), (48, .astore_n 3, 1, 49), (49, .aload_n 3, 1, 50), (50, .getfield 132, 3, 53), (53, .iload_n 1, 1, 54), (54, .iaload, 1, 55), (55, .iconst (-1), 1, 56), (56, .if_icmp .ne 20, 3, 59), (59, .aload_n 3, 1, 60), (60, .iload_n 2, 1, 61), (61, .invokevirtual 136, 3, 64), (64, .aload_n 0, 1, 65), (65, .getfield 12, 3, 68), (68, .getfield 139, 3, 71), (71, .iload_n 2, 1, 72), (72, .iaload, 1, 73), (73, .if_icmp .lt 12, 3, 76), (76, .aload_n 0, 1, 77), (77, .getfield 23, 3, 80), (80, .iconst 1, 1, 81), (81, .invokevirtual 72, 3, 84), (84, .return_, 1, 85), (85, .aload_n 3, 1, 86), (86, .getfield 132, 3, 89), (89, .iload_n 1, 1, 90), (90, .iload_n 2, 1, 91), (91, .iastore, 1, 92), (92, .return_, 1, 93)]
theorem id_X2_readHeld : ∀ q ∈ it_X2_readHeld, decode cX2_readHeld q.1 = .ok (q.2.1, q.2.2.1) ∧ q.1 + q.2.2.1 = q.2.2.2 := by decide +kernel
theorem dc_X2_readHeld {pc : Nat} {i : Instr} {n pc' : Nat} (j : Nat) (h : it_X2_readHeld[j]? = some (pc, i, n, pc')) : Dc cX2_readHeld pc i n pc' := dc_of id_X2_readHeld j h
abbrev rm_X2_readHeld : Room := { frames := 4, cells := 0, slots := 0, locals := 85 }
def b_X2_readHeld_76     (σ : MS) : Option (MS) := (f_X4_fail 16 (1 : Int32) σ).bind (fun r11 => some (r11))
set_option maxHeartbeats 4000000 in
set_option maxRecDepth 20000 in
theorem c_X2_readHeld_76 {X : CX} {Ω : OM} (hX : CF X Ω RX2 cX2_readHeld 4 none rm_X2_readHeld) (hO : OKO Ω) (hΩ : oSH Ω = SHX)      (σ : MS)  : GE X Ω 4 0 0 (emWV) 0 0 76 [(0, .ref 3)] [] σ (b_X2_readHeld_76  σ) := by
  unfold b_X2_readHeld_76
  refine g_aload_n hX (dc_X2_readHeld 42 rfl) rfl 0 rfl ?_
  refine g_getF (q := 16) hX (dc_X2_readHeld 43 rfl) fl_X2_23 (by decide) rfl (stS hΩ 3 rfl) rfl ?_
  refine g_iconst (w := (1 : Int32)) hX (dc_X2_readHeld 44 rfl) (by decide) ?_
  refine gV_WV (As := [.int (1 : Int32)]) (st := []) hX (dc_X2_readHeld 45 rfl) ml_X2_72 (con_X4_fail hO hΩ 16 (1 : Int32) σ (stR hΩ 16 (by decide))) (stS hΩ 16 rfl) rfl rfl ⟨by decide, by decide⟩ ⟨rfl, rfl⟩ ⟨Nat.zero_le _, Nat.zero_le _⟩ (Nat.le_of_ble_eq_true rfl) (fun r11 _ => ?_)
  exact g_vret hX (dc_X2_readHeld 46 rfl) rfl (Nat.le_refl _) (Nat.le_refl _)
def b_X2_readHeld_0     (σ : MS) : Option (MS) := (f_X2_readNumber (0 : Int32) ((sI σ 4 4) - (1 : Int32)) σ).bind (fun r12 => (f_X2_readNumber (0 : Int32) ((sI r12.2 4 3) - (1 : Int32)) r12.2).bind (fun r13 => (if (sI r13.2 16 6) = 0 then chk (inb r12.1 6) ((if (sI r13.2 13 (ix r12.1)) = (-1 : Int32) then (f_X8_load 12 r13.1 r13.2).bind (fun r17 => chk (inb r13.1 4) ((if r17 < (sI r13.2 9 (ix r13.1)) then chk (inb r12.1 6) (some ((wI r13.2 13 (ix r12.1) r13.1))) else (b_X2_readHeld_76 r13.2)))) else (b_X2_readHeld_76 r13.2))) else some (r13.2))))
set_option maxHeartbeats 4000000 in
set_option maxRecDepth 20000 in
theorem c_X2_readHeld_0 {X : CX} {Ω : OM} (hX : CF X Ω RX2 cX2_readHeld 4 none rm_X2_readHeld) (hO : OKO Ω) (hΩ : oSH Ω = SHX)      (σ : MS)  : GE X Ω 4 0 0 (emWV) 0 0 0 [(0, .ref 3)] [] σ (b_X2_readHeld_0  σ) := by
  unfold b_X2_readHeld_0
  refine g_aload_n hX (dc_X2_readHeld 0 rfl) rfl 0 rfl ?_
  refine g_iconst (w := (0 : Int32)) hX (dc_X2_readHeld 1 rfl) (by decide) ?_
  refine g_aload_n hX (dc_X2_readHeld 2 rfl) rfl 0 rfl ?_
  refine g_getF (q := 4) hX (dc_X2_readHeld 3 rfl) fl_X2_12 (by decide) rfl (stS hΩ 3 rfl) rfl ?_
  refine g_getI hX (dc_X2_readHeld 4 rfl) fl_X2_96 (by decide) rfl (stS hΩ 4 rfl) ?_
  refine g_iconst (w := (1 : Int32)) hX (dc_X2_readHeld 5 rfl) (by decide) ?_
  refine g_isub hX (dc_X2_readHeld 6 rfl) ?_
  refine gV_WI (As := [.int (0 : Int32), .int ((sI σ 4 4) - (1 : Int32))]) (st := []) hX (dc_X2_readHeld 7 rfl) ml_X2_105 (con_X2_readNumber hO hΩ (0 : Int32) ((sI σ 4 4) - (1 : Int32)) σ) (stS hΩ 3 rfl) rfl rfl ⟨by decide, by decide⟩ ⟨rfl, rfl⟩ ⟨Nat.zero_le _, Nat.zero_le _⟩ (Nat.le_of_ble_eq_true rfl) (fun r12 _ => ?_)
  refine g_istore_n (L' := [(1, .int r12.1), (0, .ref 3)]) hX (dc_X2_readHeld 8 rfl) rfl (by decide) rfl ?_
  refine g_aload_n hX (dc_X2_readHeld 9 rfl) rfl 1 rfl ?_
  refine g_iconst (w := (0 : Int32)) hX (dc_X2_readHeld 10 rfl) (by decide) ?_
  refine g_aload_n hX (dc_X2_readHeld 11 rfl) rfl 1 rfl ?_
  refine g_getF (q := 4) hX (dc_X2_readHeld 12 rfl) fl_X2_12 (by decide) rfl (stS hΩ 3 rfl) rfl ?_
  refine g_getI hX (dc_X2_readHeld 13 rfl) fl_X2_93 (by decide) rfl (stS hΩ 4 rfl) ?_
  refine g_iconst (w := (1 : Int32)) hX (dc_X2_readHeld 14 rfl) (by decide) ?_
  refine g_isub hX (dc_X2_readHeld 15 rfl) ?_
  refine gV_WI (As := [.int (0 : Int32), .int ((sI r12.2 4 3) - (1 : Int32))]) (st := []) hX (dc_X2_readHeld 16 rfl) ml_X2_105 (con_X2_readNumber hO hΩ (0 : Int32) ((sI r12.2 4 3) - (1 : Int32)) r12.2) (stS hΩ 3 rfl) rfl rfl ⟨by decide, by decide⟩ ⟨rfl, rfl⟩ ⟨Nat.zero_le _, Nat.zero_le _⟩ (Nat.le_of_ble_eq_true rfl) (fun r13 _ => ?_)
  refine g_istore_n (L' := [(2, .int r13.1), (1, .int r12.1), (0, .ref 3)]) hX (dc_X2_readHeld 17 rfl) rfl (by decide) rfl ?_
  refine g_aload_n hX (dc_X2_readHeld 18 rfl) rfl 2 rfl ?_
  refine g_getF (q := 16) hX (dc_X2_readHeld 19 rfl) fl_X2_23 (by decide) rfl (stS hΩ 3 rfl) rfl ?_
  refine g_getI hX (dc_X2_readHeld 20 rfl) fl_X2_55 (by decide) rfl (stS hΩ 16 rfl) ?_
  refine g_if_eq (tgt := 41) hX (dc_X2_readHeld 21 rfl) (by decide) (fun h14 => ?_) (fun h14 => ?_)
  · refine g_aload_n hX (dc_X2_readHeld 23 rfl) rfl 2 rfl ?_
    refine g_getF (q := 4) hX (dc_X2_readHeld 24 rfl) fl_X2_12 (by decide) rfl (stS hΩ 3 rfl) rfl ?_
    refine g_getF (q := 12) hX (dc_X2_readHeld 25 rfl) fl_X2_112 (by decide) rfl (stS hΩ 4 rfl) rfl ?_
    refine g_astore_n (L' := [(3, .ref 12), (2, .int r13.1), (1, .int r12.1), (0, .ref 3)]) hX (dc_X2_readHeld 26 rfl) rfl (by decide) rfl ?_
    refine g_aload_n hX (dc_X2_readHeld 27 rfl) rfl 0 rfl ?_
    refine g_getF (q := 13) hX (dc_X2_readHeld 28 rfl) fl_X2_132 (by decide) rfl (stS hΩ 12 rfl) rfl ?_
    refine g_iload_n hX (dc_X2_readHeld 29 rfl) rfl 2 rfl ?_
    refine g_chk (fun hc15 => ?_)
    refine g_iald hX (dc_X2_readHeld 30 rfl) (stS hΩ 13 rfl) hc15 rfl ?_
    refine g_iconst (w := (-1 : Int32)) hX (dc_X2_readHeld 31 rfl) (by decide) ?_
    refine g_icmp_ne (tgt := 76) hX (dc_X2_readHeld 32 rfl) (by decide) (fun h16 => ?_) (fun h16 => ?_)
    · refine g_aload_n hX (dc_X2_readHeld 33 rfl) rfl 0 rfl ?_
      refine g_iload_n hX (dc_X2_readHeld 34 rfl) rfl 1 rfl ?_
      refine gV_PI (As := [.int r13.1]) (st := []) hX (dc_X2_readHeld 35 rfl) ml_X2_136 (con_X8_load hO hΩ 12 r13.1 r13.2 (stR hΩ 12 (by decide))) (stS hΩ 12 rfl) rfl rfl ⟨by decide, by decide⟩ ⟨rfl, rfl⟩ ⟨Nat.zero_le _, Nat.zero_le _⟩ (Nat.le_of_ble_eq_true rfl) (fun r17 _ => ?_)
      refine g_aload_n hX (dc_X2_readHeld 36 rfl) rfl 3 rfl ?_
      refine g_getF (q := 4) hX (dc_X2_readHeld 37 rfl) fl_X2_12 (by decide) rfl (stS hΩ 3 rfl) rfl ?_
      refine g_getF (q := 9) hX (dc_X2_readHeld 38 rfl) fl_X2_139 (by decide) rfl (stS hΩ 4 rfl) rfl ?_
      refine g_iload_n hX (dc_X2_readHeld 39 rfl) rfl 1 rfl ?_
      refine g_chk (fun hc18 => ?_)
      refine g_iald hX (dc_X2_readHeld 40 rfl) (stS hΩ 9 rfl) hc18 rfl ?_
      refine g_icmp_lt (tgt := 85) hX (dc_X2_readHeld 41 rfl) (by decide) (fun h19 => ?_) (fun h19 => ?_)
      · refine g_aload_n hX (dc_X2_readHeld 47 rfl) rfl 0 rfl ?_
        refine g_getF (q := 13) hX (dc_X2_readHeld 48 rfl) fl_X2_132 (by decide) rfl (stS hΩ 12 rfl) rfl ?_
        refine g_iload_n hX (dc_X2_readHeld 49 rfl) rfl 2 rfl ?_
        refine g_iload_n hX (dc_X2_readHeld 50 rfl) rfl 1 rfl ?_
        refine g_chk (fun hc20 => ?_)
        refine g_iast hX (dc_X2_readHeld 51 rfl) (stS hΩ 13 rfl) hc20 rfl ?_
        exact g_vret hX (dc_X2_readHeld 52 rfl) rfl (Nat.le_refl _) (Nat.le_refl _)
      · exact g_sub [3] rfl (c_X2_readHeld_76 hX hO hΩ r13.2)
    · exact g_sub [3] rfl (c_X2_readHeld_76 hX hO hΩ r13.2)
  · exact g_vret hX (dc_X2_readHeld 22 rfl) rfl (Nat.le_refl _) (Nat.le_refl _)
def f_X2_readHeld  (σ : MS) : Option (MS) := b_X2_readHeld_0   σ
theorem con_X2_readHeld {Ω : OM} (hO : OKO Ω) (hΩ : oSH Ω = SHX)  (σ : MS)  : Con Ω yX2_readHeld cX2_readHeld 4 none rm_X2_readHeld (emWV) [.ref 3] σ (f_X2_readHeld  σ) :=
  con_of hO (by decide +kernel) (Nat.le_of_ble_eq_true rfl) rfl (fun X hX _ => c_X2_readHeld_0 hX hO hΩ    σ )
def it_X2_readAfter : List (Nat × Instr × Nat × Nat) := [(0, .aload_n 0, 1, 1), (1, .iconst 0, 1, 2), (2, .aload_n 0, 1, 3), (3, .getfield 12, 3, 6), (6, .getfield 96, 3, 9), (9, .iconst 1, 1, 10), (10, .isub, 1, 11), (11, .invokevirtual 105, 3, 14), (14, .istore_n 1, 1, 15), (15, .aload_n 0, 1, 16), (16, .iconst 0, 1, 17), (17, .aload_n 0, 1, 18), (18, .getfield 12, 3, 21), (21, .getfield 96, 3, 24), (24, .iconst 1, 1, 25), (25, .isub, 1, 26), (26, .invokevirtual 105, 3, 29), (29, .istore_n 2, 1, 30), (30, .aload_n 0, 1, 31), (31, .getfield 23, 3, 34), (34, .getfield 55, 3, 37), (37, .ifCond .eq 4, 3, 40), (40, .return_, 1, 41), (41, .iload_n 1, 1, 42), (42, .iload_n 2, 1, 43), (43, .if_icmp .ne 12, 3, 46), (46, .aload_n 0, 1, 47), (47, .getfield 23, 3, 50), (50, .iconst 1, 1, 51), (51, .invokevirtual 72, 3, 54), (54, .return_, 1, 55), (55, .aload_n 0, 1, 56), (56, .getfield 12, 3, 59), (59, .getfield 142, 3, 62), (62, .iload_n 1, 1, 63), (63, .dup2, 1, 64), (64, .iaload, 1, 65), (65, .iconst 1, 1, 66), (66, .iload_n 2, 1, 67), (67, .ishl, 1, 68), (68, .ior, 1, 69), (69, .iastore, 1, 70), (70, .return_, 1, 71)]
theorem id_X2_readAfter : ∀ q ∈ it_X2_readAfter, decode cX2_readAfter q.1 = .ok (q.2.1, q.2.2.1) ∧ q.1 + q.2.2.1 = q.2.2.2 := by decide +kernel
theorem dc_X2_readAfter {pc : Nat} {i : Instr} {n pc' : Nat} (j : Nat) (h : it_X2_readAfter[j]? = some (pc, i, n, pc')) : Dc cX2_readAfter pc i n pc' := dc_of id_X2_readAfter j h
abbrev rm_X2_readAfter : Room := { frames := 4, cells := 0, slots := 0, locals := 85 }
def b_X2_readAfter_0     (σ : MS) : Option (MS) := (f_X2_readNumber (0 : Int32) ((sI σ 4 4) - (1 : Int32)) σ).bind (fun r8 => (f_X2_readNumber (0 : Int32) ((sI r8.2 4 4) - (1 : Int32)) r8.2).bind (fun r9 => (if (sI r9.2 16 6) = 0 then (if r8.1 = r9.1 then (f_X4_fail 16 (1 : Int32) r9.2).bind (fun r12 => some (r12)) else chk (inb r8.1 6) (chk (inb r8.1 6) (some ((wI r9.2 11 (ix r8.1) ((sI r9.2 11 (ix r8.1)) ||| ((1 : Int32) <<< (r9.1 &&& 31)))))))) else some (r9.2))))
set_option maxHeartbeats 4000000 in
set_option maxRecDepth 20000 in
theorem c_X2_readAfter_0 {X : CX} {Ω : OM} (hX : CF X Ω RX2 cX2_readAfter 3 none rm_X2_readAfter) (hO : OKO Ω) (hΩ : oSH Ω = SHX)      (σ : MS)  : GE X Ω 3 0 0 (emWV) 0 0 0 [(0, .ref 3)] [] σ (b_X2_readAfter_0  σ) := by
  unfold b_X2_readAfter_0
  refine g_aload_n hX (dc_X2_readAfter 0 rfl) rfl 0 rfl ?_
  refine g_iconst (w := (0 : Int32)) hX (dc_X2_readAfter 1 rfl) (by decide) ?_
  refine g_aload_n hX (dc_X2_readAfter 2 rfl) rfl 0 rfl ?_
  refine g_getF (q := 4) hX (dc_X2_readAfter 3 rfl) fl_X2_12 (by decide) rfl (stS hΩ 3 rfl) rfl ?_
  refine g_getI hX (dc_X2_readAfter 4 rfl) fl_X2_96 (by decide) rfl (stS hΩ 4 rfl) ?_
  refine g_iconst (w := (1 : Int32)) hX (dc_X2_readAfter 5 rfl) (by decide) ?_
  refine g_isub hX (dc_X2_readAfter 6 rfl) ?_
  refine gV_WI (As := [.int (0 : Int32), .int ((sI σ 4 4) - (1 : Int32))]) (st := []) hX (dc_X2_readAfter 7 rfl) ml_X2_105 (con_X2_readNumber hO hΩ (0 : Int32) ((sI σ 4 4) - (1 : Int32)) σ) (stS hΩ 3 rfl) rfl rfl ⟨by decide, by decide⟩ ⟨rfl, rfl⟩ ⟨Nat.zero_le _, Nat.zero_le _⟩ (Nat.le_of_ble_eq_true rfl) (fun r8 _ => ?_)
  refine g_istore_n (L' := [(1, .int r8.1), (0, .ref 3)]) hX (dc_X2_readAfter 8 rfl) rfl (by decide) rfl ?_
  refine g_aload_n hX (dc_X2_readAfter 9 rfl) rfl 1 rfl ?_
  refine g_iconst (w := (0 : Int32)) hX (dc_X2_readAfter 10 rfl) (by decide) ?_
  refine g_aload_n hX (dc_X2_readAfter 11 rfl) rfl 1 rfl ?_
  refine g_getF (q := 4) hX (dc_X2_readAfter 12 rfl) fl_X2_12 (by decide) rfl (stS hΩ 3 rfl) rfl ?_
  refine g_getI hX (dc_X2_readAfter 13 rfl) fl_X2_96 (by decide) rfl (stS hΩ 4 rfl) ?_
  refine g_iconst (w := (1 : Int32)) hX (dc_X2_readAfter 14 rfl) (by decide) ?_
  refine g_isub hX (dc_X2_readAfter 15 rfl) ?_
  refine gV_WI (As := [.int (0 : Int32), .int ((sI r8.2 4 4) - (1 : Int32))]) (st := []) hX (dc_X2_readAfter 16 rfl) ml_X2_105 (con_X2_readNumber hO hΩ (0 : Int32) ((sI r8.2 4 4) - (1 : Int32)) r8.2) (stS hΩ 3 rfl) rfl rfl ⟨by decide, by decide⟩ ⟨rfl, rfl⟩ ⟨Nat.zero_le _, Nat.zero_le _⟩ (Nat.le_of_ble_eq_true rfl) (fun r9 _ => ?_)
  refine g_istore_n (L' := [(2, .int r9.1), (1, .int r8.1), (0, .ref 3)]) hX (dc_X2_readAfter 17 rfl) rfl (by decide) rfl ?_
  refine g_aload_n hX (dc_X2_readAfter 18 rfl) rfl 2 rfl ?_
  refine g_getF (q := 16) hX (dc_X2_readAfter 19 rfl) fl_X2_23 (by decide) rfl (stS hΩ 3 rfl) rfl ?_
  refine g_getI hX (dc_X2_readAfter 20 rfl) fl_X2_55 (by decide) rfl (stS hΩ 16 rfl) ?_
  refine g_if_eq (tgt := 41) hX (dc_X2_readAfter 21 rfl) (by decide) (fun h10 => ?_) (fun h10 => ?_)
  · refine g_iload_n hX (dc_X2_readAfter 23 rfl) rfl 1 rfl ?_
    refine g_iload_n hX (dc_X2_readAfter 24 rfl) rfl 0 rfl ?_
    refine g_icmp_ne (tgt := 55) hX (dc_X2_readAfter 25 rfl) (by decide) (fun h11 => ?_) (fun h11 => ?_)
    · refine g_aload_n hX (dc_X2_readAfter 26 rfl) rfl 2 rfl ?_
      refine g_getF (q := 16) hX (dc_X2_readAfter 27 rfl) fl_X2_23 (by decide) rfl (stS hΩ 3 rfl) rfl ?_
      refine g_iconst (w := (1 : Int32)) hX (dc_X2_readAfter 28 rfl) (by decide) ?_
      refine gV_WV (As := [.int (1 : Int32)]) (st := []) hX (dc_X2_readAfter 29 rfl) ml_X2_72 (con_X4_fail hO hΩ 16 (1 : Int32) r9.2 (stR hΩ 16 (by decide))) (stS hΩ 16 rfl) rfl rfl ⟨by decide, by decide⟩ ⟨rfl, rfl⟩ ⟨Nat.zero_le _, Nat.zero_le _⟩ (Nat.le_of_ble_eq_true rfl) (fun r12 _ => ?_)
      exact g_vret hX (dc_X2_readAfter 30 rfl) rfl (Nat.le_refl _) (Nat.le_refl _)
    · refine g_aload_n hX (dc_X2_readAfter 31 rfl) rfl 2 rfl ?_
      refine g_getF (q := 4) hX (dc_X2_readAfter 32 rfl) fl_X2_12 (by decide) rfl (stS hΩ 3 rfl) rfl ?_
      refine g_getF (q := 11) hX (dc_X2_readAfter 33 rfl) fl_X2_142 (by decide) rfl (stS hΩ 4 rfl) rfl ?_
      refine g_iload_n hX (dc_X2_readAfter 34 rfl) rfl 1 rfl ?_
      refine g_dup2 hX (dc_X2_readAfter 35 rfl) rfl rfl ?_
      refine g_chk (fun hc13 => ?_)
      refine g_iald hX (dc_X2_readAfter 36 rfl) (stS hΩ 11 rfl) hc13 rfl ?_
      refine g_iconst (w := (1 : Int32)) hX (dc_X2_readAfter 37 rfl) (by decide) ?_
      refine g_iload_n hX (dc_X2_readAfter 38 rfl) rfl 0 rfl ?_
      refine g_ishl hX (dc_X2_readAfter 39 rfl) ?_
      refine g_ior hX (dc_X2_readAfter 40 rfl) ?_
      refine g_chk (fun hc14 => ?_)
      refine g_iast hX (dc_X2_readAfter 41 rfl) (stS hΩ 11 rfl) hc14 rfl ?_
      exact g_vret hX (dc_X2_readAfter 42 rfl) rfl (Nat.le_refl _) (Nat.le_refl _)
  · exact g_vret hX (dc_X2_readAfter 22 rfl) rfl (Nat.le_refl _) (Nat.le_refl _)
def f_X2_readAfter  (σ : MS) : Option (MS) := b_X2_readAfter_0   σ
theorem con_X2_readAfter {Ω : OM} (hO : OKO Ω) (hΩ : oSH Ω = SHX)  (σ : MS)  : Con Ω yX2_readAfter cX2_readAfter 3 none rm_X2_readAfter (emWV) [.ref 3] σ (f_X2_readAfter  σ) :=
  con_of hO (by decide +kernel) (Nat.le_of_ble_eq_true rfl) rfl (fun X hX _ => c_X2_readAfter_0 hX hO hΩ    σ )
def it_X4_isSign : List (Nat × Instr × Nat × Nat) := [(0, .aload_n 0, 1, 1), (1, .getfield 34, 3, 4), (4, .iconst 3, 1, 5), (5, .if_icmp .ne 15, 3, 8), (8, .aload_n 0, 1, 9), (9, .getfield 57, 3, 12), (12, .iload_n 1, 1, 13), (13, .if_icmp .ne 7, 3, 16), (16, .iconst 1, 1, 17), (17, .goto 4, 3, 20), (20, .iconst 0, 1, 21), (21, .ireturn, 1, 22)]
theorem id_X4_isSign : ∀ q ∈ it_X4_isSign, decode cX4_isSign q.1 = .ok (q.2.1, q.2.2.1) ∧ q.1 + q.2.2.1 = q.2.2.2 := by decide +kernel
theorem dc_X4_isSign {pc : Nat} {i : Instr} {n pc' : Nat} (j : Nat) (h : it_X4_isSign[j]? = some (pc, i, n, pc')) : Dc cX4_isSign pc i n pc' := dc_of id_X4_isSign j h
abbrev rm_X4_isSign : Room := { frames := 0, cells := 0, slots := 0, locals := 0 }
def b_X4_isSign_21 (a0 : Nat)   (s0 : Int32) (σ : MS) : Option (Int32) := chk (s0 = 0 ∨ s0 = 1) (some s0)
set_option maxHeartbeats 4000000 in
set_option maxRecDepth 20000 in
theorem c_X4_isSign_21 {X : CX} {Ω : OM} (hX : CF X Ω RX4 cX4_isSign 2 (some .boolean) rm_X4_isSign) (hO : OKO Ω) (hΩ : oSH Ω = SHX) (a0 : Nat) (ha0 : sRt Ω a0 [(14, 0)]) (σ : MS)   (s0 : Int32)   : GE X Ω 2 0 0 (emPI σ) 0 0 21 [] [.int s0] σ (b_X4_isSign_21 a0 s0 σ) := by
  unfold b_X4_isSign_21
  refine g_chk (fun hc4 => ?_)
  exact g_iret hX (dc_X4_isSign 11 rfl) (nz_bool hc4).1 rfl (Nat.le_refl _) (Nat.le_refl _)
def b_X4_isSign_20 (a0 : Nat)    (σ : MS) : Option (Int32) := (b_X4_isSign_21 a0 ((0 : Int32)) σ)
set_option maxHeartbeats 4000000 in
set_option maxRecDepth 20000 in
theorem c_X4_isSign_20 {X : CX} {Ω : OM} (hX : CF X Ω RX4 cX4_isSign 2 (some .boolean) rm_X4_isSign) (hO : OKO Ω) (hΩ : oSH Ω = SHX) (a0 : Nat) (ha0 : sRt Ω a0 [(14, 0)]) (σ : MS)      : GE X Ω 2 0 0 (emPI σ) 0 0 20 [] [] σ (b_X4_isSign_20 a0 σ) := by
  unfold b_X4_isSign_20
  refine g_iconst (w := (0 : Int32)) hX (dc_X4_isSign 10 rfl) (by decide) ?_
  exact g_sub [] rfl (c_X4_isSign_21 hX hO hΩ a0 ha0 σ ((0 : Int32)))
def b_X4_isSign_0 (a0 : Nat)  (x1 : Int32)  (σ : MS) : Option (Int32) := (if (sI σ a0 2) = (3 : Int32) then (if (sI σ a0 5) = x1 then (b_X4_isSign_21 a0 ((1 : Int32)) σ) else (b_X4_isSign_20 a0 σ)) else (b_X4_isSign_20 a0 σ))
set_option maxHeartbeats 4000000 in
set_option maxRecDepth 20000 in
theorem c_X4_isSign_0 {X : CX} {Ω : OM} (hX : CF X Ω RX4 cX4_isSign 2 (some .boolean) rm_X4_isSign) (hO : OKO Ω) (hΩ : oSH Ω = SHX) (a0 : Nat) (ha0 : sRt Ω a0 [(14, 0)]) (σ : MS)  (x1 : Int32)    : GE X Ω 2 0 0 (emPI σ) 0 0 0 [(0, .ref a0), (1, .int x1)] [] σ (b_X4_isSign_0 a0 x1 σ) := by
  unfold b_X4_isSign_0
  refine g_aload_n hX (dc_X4_isSign 0 rfl) rfl 0 rfl ?_
  refine g_getI hX (dc_X4_isSign 1 rfl) fl_X4_34 (by decide) rfl (ha0.tf 0 rfl) ?_
  refine g_iconst (w := (3 : Int32)) hX (dc_X4_isSign 2 rfl) (by decide) ?_
  refine g_icmp_ne (tgt := 20) hX (dc_X4_isSign 3 rfl) (by decide) (fun h5 => ?_) (fun h5 => ?_)
  · refine g_aload_n hX (dc_X4_isSign 4 rfl) rfl 0 rfl ?_
    refine g_getI hX (dc_X4_isSign 5 rfl) fl_X4_57 (by decide) rfl (ha0.tf 0 rfl) ?_
    refine g_iload_n hX (dc_X4_isSign 6 rfl) rfl 1 rfl ?_
    refine g_icmp_ne (tgt := 20) hX (dc_X4_isSign 7 rfl) (by decide) (fun h6 => ?_) (fun h6 => ?_)
    · refine g_iconst (w := (1 : Int32)) hX (dc_X4_isSign 8 rfl) (by decide) ?_
      refine g_goto (tgt := 21) hX (dc_X4_isSign 9 rfl) (by decide) ?_
      exact g_sub [] rfl (c_X4_isSign_21 hX hO hΩ a0 ha0 σ ((1 : Int32)))
    · exact g_sub [] rfl (c_X4_isSign_20 hX hO hΩ a0 ha0 σ)
  · exact g_sub [] rfl (c_X4_isSign_20 hX hO hΩ a0 ha0 σ)
def f_X4_isSign (a0 : Nat) (x1 : Int32) (σ : MS) : Option (Int32) := b_X4_isSign_0 a0 x1 σ
theorem con_X4_isSign {Ω : OM} (hO : OKO Ω) (hΩ : oSH Ω = SHX) (a0 : Nat) (x1 : Int32) (σ : MS) (ha0 : sRt Ω a0 [(14, 0)]) : Con Ω yX4_isSign cX4_isSign 2 (some .boolean) rm_X4_isSign (emPI σ) [.ref a0, .int x1] σ (f_X4_isSign a0 x1 σ) :=
  con_of hO (by decide +kernel) (Nat.le_of_ble_eq_true rfl) rfl (fun X hX _ => c_X4_isSign_0 hX hO hΩ a0 ha0 σ x1)
def it_X4_endsClause : List (Nat × Instr × Nat × Nat) := [(0, .aload_n 0, 1, 1), (1, .getfield 34, 3, 4), (4, .ifCond .eq 12, 3, 7), (7, .aload_n 0, 1, 8), (8, .bipush 59, 2, 10), (10, .invokevirtual 60, 3, 13), (13, .ifCond .eq 7, 3, 16), (16, .iconst 1, 1, 17), (17, .goto 4, 3, 20), (20, .iconst 0, 1, 21), (21, .ireturn, 1, 22)]
theorem id_X4_endsClause : ∀ q ∈ it_X4_endsClause, decode cX4_endsClause q.1 = .ok (q.2.1, q.2.2.1) ∧ q.1 + q.2.2.1 = q.2.2.2 := by decide +kernel
theorem dc_X4_endsClause {pc : Nat} {i : Instr} {n pc' : Nat} (j : Nat) (h : it_X4_endsClause[j]? = some (pc, i, n, pc')) : Dc cX4_endsClause pc i n pc' := dc_of id_X4_endsClause j h
abbrev rm_X4_endsClause : Room := { frames := 1, cells := 0, slots := 0, locals := 21 }
def b_X4_endsClause_21 (a0 : Nat)   (s0 : Int32) (σ : MS) : Option (Int32) := chk (s0 = 0 ∨ s0 = 1) (some s0)
set_option maxHeartbeats 4000000 in
set_option maxRecDepth 20000 in
theorem c_X4_endsClause_21 {X : CX} {Ω : OM} (hX : CF X Ω RX4 cX4_endsClause 1 (some .boolean) rm_X4_endsClause) (hO : OKO Ω) (hΩ : oSH Ω = SHX) (a0 : Nat) (ha0 : sRt Ω a0 [(14, 0)]) (σ : MS)   (s0 : Int32)   : GE X Ω 1 0 0 (emPI σ) 0 0 21 [] [.int s0] σ (b_X4_endsClause_21 a0 s0 σ) := by
  unfold b_X4_endsClause_21
  refine g_chk (fun hc5 => ?_)
  exact g_iret hX (dc_X4_endsClause 10 rfl) (nz_bool hc5).1 rfl (Nat.le_refl _) (Nat.le_refl _)
def b_X4_endsClause_16 (a0 : Nat)    (σ : MS) : Option (Int32) := (b_X4_endsClause_21 a0 ((1 : Int32)) σ)
set_option maxHeartbeats 4000000 in
set_option maxRecDepth 20000 in
theorem c_X4_endsClause_16 {X : CX} {Ω : OM} (hX : CF X Ω RX4 cX4_endsClause 1 (some .boolean) rm_X4_endsClause) (hO : OKO Ω) (hΩ : oSH Ω = SHX) (a0 : Nat) (ha0 : sRt Ω a0 [(14, 0)]) (σ : MS)      : GE X Ω 1 0 0 (emPI σ) 0 0 16 [] [] σ (b_X4_endsClause_16 a0 σ) := by
  unfold b_X4_endsClause_16
  refine g_iconst (w := (1 : Int32)) hX (dc_X4_endsClause 7 rfl) (by decide) ?_
  refine g_goto (tgt := 21) hX (dc_X4_endsClause 8 rfl) (by decide) ?_
  exact g_sub [] rfl (c_X4_endsClause_21 hX hO hΩ a0 ha0 σ ((1 : Int32)))
def b_X4_endsClause_0 (a0 : Nat)    (σ : MS) : Option (Int32) := (if (sI σ a0 2) = 0 then (b_X4_endsClause_16 a0 σ) else (f_X4_isSign a0 (59 : Int32) σ).bind (fun r7 => (if r7 = 0 then (b_X4_endsClause_21 a0 ((0 : Int32)) σ) else (b_X4_endsClause_16 a0 σ))))
set_option maxHeartbeats 4000000 in
set_option maxRecDepth 20000 in
theorem c_X4_endsClause_0 {X : CX} {Ω : OM} (hX : CF X Ω RX4 cX4_endsClause 1 (some .boolean) rm_X4_endsClause) (hO : OKO Ω) (hΩ : oSH Ω = SHX) (a0 : Nat) (ha0 : sRt Ω a0 [(14, 0)]) (σ : MS)      : GE X Ω 1 0 0 (emPI σ) 0 0 0 [(0, .ref a0)] [] σ (b_X4_endsClause_0 a0 σ) := by
  unfold b_X4_endsClause_0
  refine g_aload_n hX (dc_X4_endsClause 0 rfl) rfl 0 rfl ?_
  refine g_getI hX (dc_X4_endsClause 1 rfl) fl_X4_34 (by decide) rfl (ha0.tf 0 rfl) ?_
  refine g_if_eq (tgt := 16) hX (dc_X4_endsClause 2 rfl) (by decide) (fun h6 => ?_) (fun h6 => ?_)
  · exact g_sub [] rfl (c_X4_endsClause_16 hX hO hΩ a0 ha0 σ)
  · refine g_aload_n hX (dc_X4_endsClause 3 rfl) rfl 0 rfl ?_
    refine g_bipush (w := (59 : Int32)) hX (dc_X4_endsClause 4 rfl) (by decide) ?_
    refine gV_PI (As := [.int (59 : Int32)]) (st := []) hX (dc_X4_endsClause 5 rfl) ml_X4_60 (con_X4_isSign hO hΩ a0 (59 : Int32) σ ha0) (ha0.tf 0 rfl) rfl rfl ⟨by decide, by decide⟩ ⟨rfl, rfl⟩ ⟨Nat.zero_le _, Nat.zero_le _⟩ (Nat.le_of_ble_eq_true rfl) (fun r7 _ => ?_)
    refine g_if_eq (tgt := 20) hX (dc_X4_endsClause 6 rfl) (by decide) (fun h8 => ?_) (fun h8 => ?_)
    · refine g_iconst (w := (0 : Int32)) hX (dc_X4_endsClause 9 rfl) (by decide) ?_
      exact g_sub [] rfl (c_X4_endsClause_21 hX hO hΩ a0 ha0 σ ((0 : Int32)))
    · exact g_sub [] rfl (c_X4_endsClause_16 hX hO hΩ a0 ha0 σ)
def f_X4_endsClause (a0 : Nat) (σ : MS) : Option (Int32) := b_X4_endsClause_0 a0  σ
theorem con_X4_endsClause {Ω : OM} (hO : OKO Ω) (hΩ : oSH Ω = SHX) (a0 : Nat) (σ : MS) (ha0 : sRt Ω a0 [(14, 0)]) : Con Ω yX4_endsClause cX4_endsClause 1 (some .boolean) rm_X4_endsClause (emPI σ) [.ref a0] σ (f_X4_endsClause a0 σ) :=
  con_of hO (by decide +kernel) (Nat.le_of_ble_eq_true rfl) rfl (fun X hX _ => c_X4_endsClause_0 hX hO hΩ a0 ha0 σ )
def it_X2_hasMore : List (Nat × Instr × Nat × Nat) := [(0, .aload_n 0, 1, 1), (1, .getfield 23, 3, 4), (4, .invokevirtual 63, 3, 7), (7, .aload_n 0, 1, 8), (8, .getfield 23, 3, 11), (11, .invokevirtual 80, 3, 14), (14, .ifCond .ne 11, 3, 17), (17, .aload_n 0, 1, 18), (18, .getfield 23, 3, 21), (21, .iconst 0, 1, 22), (22, .invokevirtual 72, 3, 25), (25, .aload_n 0, 1, 26), (26, .getfield 23, 3, 29), (29, .bipush 59, 2, 31), (31, .invokevirtual 83, 3, 34), (34, .ireturn, 1, 35)]
theorem id_X2_hasMore : ∀ q ∈ it_X2_hasMore, decode cX2_hasMore q.1 = .ok (q.2.1, q.2.2.1) ∧ q.1 + q.2.2.1 = q.2.2.2 := by decide +kernel
theorem dc_X2_hasMore {pc : Nat} {i : Instr} {n pc' : Nat} (j : Nat) (h : it_X2_hasMore[j]? = some (pc, i, n, pc')) : Dc cX2_hasMore pc i n pc' := dc_of id_X2_hasMore j h
abbrev rm_X2_hasMore : Room := { frames := 3, cells := 0, slots := 0, locals := 63 }
def b_X2_hasMore_25     (σ : MS) : Option (Int32 × MS) := (f_X4_isSign 16 (59 : Int32) σ).bind (fun r7 => chk (r7 = 0 ∨ r7 = 1) (some (r7, σ)))
set_option maxHeartbeats 4000000 in
set_option maxRecDepth 20000 in
theorem c_X2_hasMore_25 {X : CX} {Ω : OM} (hX : CF X Ω RX2 cX2_hasMore 1 (some .boolean) rm_X2_hasMore) (hO : OKO Ω) (hΩ : oSH Ω = SHX)      (σ : MS)  : GE X Ω 1 0 0 (emWI) 0 0 25 [(0, .ref 3)] [] σ (b_X2_hasMore_25  σ) := by
  unfold b_X2_hasMore_25
  refine g_aload_n hX (dc_X2_hasMore 11 rfl) rfl 0 rfl ?_
  refine g_getF (q := 16) hX (dc_X2_hasMore 12 rfl) fl_X2_23 (by decide) rfl (stS hΩ 3 rfl) rfl ?_
  refine g_bipush (w := (59 : Int32)) hX (dc_X2_hasMore 13 rfl) (by decide) ?_
  refine gV_PI (As := [.int (59 : Int32)]) (st := []) hX (dc_X2_hasMore 14 rfl) ml_X2_83 (con_X4_isSign hO hΩ 16 (59 : Int32) σ (stR hΩ 16 (by decide))) (stS hΩ 16 rfl) rfl rfl ⟨by decide, by decide⟩ ⟨rfl, rfl⟩ ⟨Nat.zero_le _, Nat.zero_le _⟩ (Nat.le_of_ble_eq_true rfl) (fun r7 _ => ?_)
  refine g_chk (fun hc8 => ?_)
  exact g_iret hX (dc_X2_hasMore 15 rfl) (nz_bool hc8).1 rfl (Nat.le_refl _) (Nat.le_refl _)
def b_X2_hasMore_0     (σ : MS) : Option (Int32 × MS) := (f_X4_advance 16 σ).bind (fun r9 => (f_X4_endsClause 16 r9).bind (fun r10 => (if r10 = 0 then (f_X4_fail 16 (0 : Int32) r9).bind (fun r12 => (b_X2_hasMore_25 r12)) else (b_X2_hasMore_25 r9))))
set_option maxHeartbeats 4000000 in
set_option maxRecDepth 20000 in
theorem c_X2_hasMore_0 {X : CX} {Ω : OM} (hX : CF X Ω RX2 cX2_hasMore 1 (some .boolean) rm_X2_hasMore) (hO : OKO Ω) (hΩ : oSH Ω = SHX)      (σ : MS)  : GE X Ω 1 0 0 (emWI) 0 0 0 [(0, .ref 3)] [] σ (b_X2_hasMore_0  σ) := by
  unfold b_X2_hasMore_0
  refine g_aload_n hX (dc_X2_hasMore 0 rfl) rfl 0 rfl ?_
  refine g_getF (q := 16) hX (dc_X2_hasMore 1 rfl) fl_X2_23 (by decide) rfl (stS hΩ 3 rfl) rfl ?_
  refine gV_WV (As := []) (st := []) hX (dc_X2_hasMore 2 rfl) ml_X2_63 (con_X4_advance hO hΩ 16 σ (stR hΩ 16 (by decide))) (stS hΩ 16 rfl) rfl rfl ⟨by decide, by decide⟩ ⟨rfl, rfl⟩ ⟨Nat.zero_le _, Nat.zero_le _⟩ (Nat.le_of_ble_eq_true rfl) (fun r9 _ => ?_)
  refine g_aload_n hX (dc_X2_hasMore 3 rfl) rfl 0 rfl ?_
  refine g_getF (q := 16) hX (dc_X2_hasMore 4 rfl) fl_X2_23 (by decide) rfl (stS hΩ 3 rfl) rfl ?_
  refine gV_PI (As := []) (st := []) hX (dc_X2_hasMore 5 rfl) ml_X2_80 (con_X4_endsClause hO hΩ 16 r9 (stR hΩ 16 (by decide))) (stS hΩ 16 rfl) rfl rfl ⟨by decide, by decide⟩ ⟨rfl, rfl⟩ ⟨Nat.zero_le _, Nat.zero_le _⟩ (Nat.le_of_ble_eq_true rfl) (fun r10 _ => ?_)
  refine g_if_ne (tgt := 25) hX (dc_X2_hasMore 6 rfl) (by decide) (fun h11 => ?_) (fun h11 => ?_)
  · refine g_aload_n hX (dc_X2_hasMore 7 rfl) rfl 0 rfl ?_
    refine g_getF (q := 16) hX (dc_X2_hasMore 8 rfl) fl_X2_23 (by decide) rfl (stS hΩ 3 rfl) rfl ?_
    refine g_iconst (w := (0 : Int32)) hX (dc_X2_hasMore 9 rfl) (by decide) ?_
    refine gV_WV (As := [.int (0 : Int32)]) (st := []) hX (dc_X2_hasMore 10 rfl) ml_X2_72 (con_X4_fail hO hΩ 16 (0 : Int32) r9 (stR hΩ 16 (by decide))) (stS hΩ 16 rfl) rfl rfl ⟨by decide, by decide⟩ ⟨rfl, rfl⟩ ⟨Nat.zero_le _, Nat.zero_le _⟩ (Nat.le_of_ble_eq_true rfl) (fun r12 _ => ?_)
    exact g_sub [0] rfl (c_X2_hasMore_25 hX hO hΩ r12)
  · exact g_sub [0] rfl (c_X2_hasMore_25 hX hO hΩ r9)
def f_X2_hasMore  (σ : MS) : Option (Int32 × MS) := b_X2_hasMore_0   σ
theorem con_X2_hasMore {Ω : OM} (hO : OKO Ω) (hΩ : oSH Ω = SHX)  (σ : MS)  : Con Ω yX2_hasMore cX2_hasMore 1 (some .boolean) rm_X2_hasMore (emWI) [.ref 3] σ (f_X2_hasMore  σ) :=
  con_of hO (by decide +kernel) (Nat.le_of_ble_eq_true rfl) rfl (fun X hX _ => c_X2_hasMore_0 hX hO hΩ    σ )
def it_X2_read : List (Nat × Instr × Nat × Nat) := [(0, .aload_n 0, 1, 1), (1, .getfield 23, 3, 4), (4, .invokevirtual 27, 3, 7), (7, .aload_n 0, 1, 8), (8, .getfield 12, 3, 11), (11, .invokevirtual 30, 3, 14), (14, .iconst 1, 1, 15), (15, .istore_n 1, 1, 16), (16, .iconst 0, 1, 17), (17, .istore_n 2, 1, 18), (18, .iload_n 1, 1, 19), (19, .ifCond .eq 124, 3, 22), (22, .iload_n 2, 1, 23), (23, .bipush 40, 2, 25), (25, .if_icmp .gt 118, 3, 28), (28, .aload_n 0, 1, 29), (29, .iload_n 2, 1, 30), (30, .invokevirtual 33, 3, 33), (33, .tableswitch 81 0 5 #[39, 46, 53, 60, 67, 74], 39, 72), (72, .aload_n 0, 1, 73), (73, .invokevirtual 37, 3, 76), (76, .goto 38, 3, 79), (79, .aload_n 0, 1, 80), (80, .invokevirtual 40, 3, 83), (83, .goto 31, 3, 86), (86, .aload_n 0, 1, 87), (87, .invokevirtual 43, 3, 90), (90, .goto 24, 3, 93), (93, .aload_n 0, 1, 94), (94, .invokevirtual 46, 3, 97), (97, .goto 17, 3, 100), (100, .aload_n 0, 1, 101), (101, .invokevirtual 49, 3, 104), (104, .goto 10, 3, 107), (107, .aload_n 0, 1, 108), (108, .invokevirtual 52, 3, 111), (111, .goto 3, 3, 114), (114, .aload_n 0, 1, 115), (115, .getfield 23, 3, 118), (118, .getfield 55, 3, 121), (121, .ifCond .ne 14, 3, 124), (124, .aload_n 0, 1, 125), (125, .invokevirtual 59, 3, 128), (128, .ifCond .eq 7, 3, 131), (131, .iconst 1, 1, 132), (132, .goto 4, 3, 135), (135, .iconst 0, 1, 136), (136, .istore_n 1, 1, 137), (137, .iinc 2 1, 3, 140), (140, .goto (-122), 3, 143), (143, .aload_n 0, 1, 144), (144, .getfield 23, 3, 147), (147, .getfield 55, 3, 150), (150, .ireturn, 1, 151)]
theorem id_X2_read : ∀ q ∈ it_X2_read, decode cX2_read q.1 = .ok (q.2.1, q.2.2.1) ∧ q.1 + q.2.2.1 = q.2.2.2 := by decide +kernel
theorem dc_X2_read {pc : Nat} {i : Instr} {n pc' : Nat} (j : Nat) (h : it_X2_read[j]? = some (pc, i, n, pc')) : Dc cX2_read pc i n pc' := dc_of id_X2_read j h
abbrev rm_X2_read : Room := { frames := 7, cells := 0, slots := 0, locals := 155 }
def b_X2_read_143     (σ : MS) : Option (Int32 × MS) := some ((sI σ 16 6), σ)
set_option maxHeartbeats 4000000 in
set_option maxRecDepth 20000 in
theorem c_X2_read_143 {X : CX} {Ω : OM} (hX : CF X Ω RX2 cX2_read 3 (some .int) rm_X2_read) (hO : OKO Ω) (hΩ : oSH Ω = SHX)      (σ : MS)  : GE X Ω 3 0 0 (emWI) 0 0 143 [(0, .ref 3)] [] σ (b_X2_read_143  σ) := by
  unfold b_X2_read_143
  refine g_aload_n hX (dc_X2_read 50 rfl) rfl 0 rfl ?_
  refine g_getF (q := 16) hX (dc_X2_read 51 rfl) fl_X2_23 (by decide) rfl (stS hΩ 3 rfl) rfl ?_
  refine g_getI hX (dc_X2_read 52 rfl) fl_X2_55 (by decide) rfl (stS hΩ 16 rfl) ?_
  exact g_iret hX (dc_X2_read 53 rfl) rfl rfl (Nat.le_refl _) (Nat.le_refl _)
def b_X2_read_136  (k18 : Int32 → Int32 → MS → Option (Int32 × MS))  (y2 : Int32) (s0 : Int32) (σ : MS) : Option (Int32 × MS) := (k18 (s0) ((y2 + (1 : Int32))) σ)
set_option maxHeartbeats 4000000 in
set_option maxRecDepth 20000 in
theorem c_X2_read_136 {X : CX} {Ω : OM} (hX : CF X Ω RX2 cX2_read 3 (some .int) rm_X2_read) (hO : OKO Ω) (hΩ : oSH Ω = SHX)   (k18 : Int32 → Int32 → MS → Option (Int32 × MS)) (hk18 : ∀ (y1 : Int32) (y2 : Int32) (σ : MS) , GE X Ω 3 0 0 (emWI) 0 0 18 [(0, .ref 3), (1, .int y1), (2, .int y2)] [] σ (k18 y1 y2 σ))  (y2 : Int32) (s0 : Int32) (σ : MS)  : GE X Ω 3 0 0 (emWI) 0 0 136 [(0, .ref 3), (2, .int y2)] [.int s0] σ (b_X2_read_136  k18 y2 s0 σ) := by
  unfold b_X2_read_136
  refine g_istore_n (L' := [(1, .int s0), (0, .ref 3), (2, .int y2)]) hX (dc_X2_read 47 rfl) rfl (by decide) rfl ?_
  refine g_iinc (w := (y2 + (1 : Int32))) (L' := [(2, .int (y2 + (1 : Int32))), (1, .int s0), (0, .ref 3)]) hX (dc_X2_read 48 rfl) 2 rfl rfl (by decide) rfl ?_
  refine g_goto (tgt := 18) hX (dc_X2_read 49 rfl) (by decide) ?_
  exact g_sub [2, 1, 0] rfl (hk18 (s0) ((y2 + (1 : Int32))) σ )
def b_X2_read_135  (k18 : Int32 → Int32 → MS → Option (Int32 × MS))  (y2 : Int32) (σ : MS) : Option (Int32 × MS) := (b_X2_read_136 k18 (y2) ((0 : Int32)) σ)
set_option maxHeartbeats 4000000 in
set_option maxRecDepth 20000 in
theorem c_X2_read_135 {X : CX} {Ω : OM} (hX : CF X Ω RX2 cX2_read 3 (some .int) rm_X2_read) (hO : OKO Ω) (hΩ : oSH Ω = SHX)   (k18 : Int32 → Int32 → MS → Option (Int32 × MS)) (hk18 : ∀ (y1 : Int32) (y2 : Int32) (σ : MS) , GE X Ω 3 0 0 (emWI) 0 0 18 [(0, .ref 3), (1, .int y1), (2, .int y2)] [] σ (k18 y1 y2 σ))  (y2 : Int32) (σ : MS)  : GE X Ω 3 0 0 (emWI) 0 0 135 [(0, .ref 3), (2, .int y2)] [] σ (b_X2_read_135  k18 y2 σ) := by
  unfold b_X2_read_135
  refine g_iconst (w := (0 : Int32)) hX (dc_X2_read 46 rfl) (by decide) ?_
  exact g_sub [0, 1] rfl (c_X2_read_136 hX hO hΩ _ hk18 (y2) ((0 : Int32)) σ)
def b_X2_read_114  (k18 : Int32 → Int32 → MS → Option (Int32 × MS))  (y2 : Int32) (σ : MS) : Option (Int32 × MS) := (if (sI σ 16 6) = 0 then (f_X2_hasMore σ).bind (fun r22 => (if r22.1 = 0 then (b_X2_read_135 k18 (y2) r22.2) else (b_X2_read_136 k18 (y2) ((1 : Int32)) r22.2))) else (b_X2_read_135 k18 (y2) σ))
set_option maxHeartbeats 4000000 in
set_option maxRecDepth 20000 in
theorem c_X2_read_114 {X : CX} {Ω : OM} (hX : CF X Ω RX2 cX2_read 3 (some .int) rm_X2_read) (hO : OKO Ω) (hΩ : oSH Ω = SHX)   (k18 : Int32 → Int32 → MS → Option (Int32 × MS)) (hk18 : ∀ (y1 : Int32) (y2 : Int32) (σ : MS) , GE X Ω 3 0 0 (emWI) 0 0 18 [(0, .ref 3), (1, .int y1), (2, .int y2)] [] σ (k18 y1 y2 σ))  (y2 : Int32) (σ : MS)  : GE X Ω 3 0 0 (emWI) 0 0 114 [(0, .ref 3), (2, .int y2)] [] σ (b_X2_read_114  k18 y2 σ) := by
  unfold b_X2_read_114
  refine g_aload_n hX (dc_X2_read 37 rfl) rfl 0 rfl ?_
  refine g_getF (q := 16) hX (dc_X2_read 38 rfl) fl_X2_23 (by decide) rfl (stS hΩ 3 rfl) rfl ?_
  refine g_getI hX (dc_X2_read 39 rfl) fl_X2_55 (by decide) rfl (stS hΩ 16 rfl) ?_
  refine g_if_ne (tgt := 135) hX (dc_X2_read 40 rfl) (by decide) (fun h21 => ?_) (fun h21 => ?_)
  · refine g_aload_n hX (dc_X2_read 41 rfl) rfl 0 rfl ?_
    refine gV_WI (As := []) (st := []) hX (dc_X2_read 42 rfl) ml_X2_59 (con_X2_hasMore hO hΩ σ) (stS hΩ 3 rfl) rfl rfl ⟨by decide, by decide⟩ ⟨rfl, rfl⟩ ⟨Nat.zero_le _, Nat.zero_le _⟩ (Nat.le_of_ble_eq_true rfl) (fun r22 _ => ?_)
    refine g_if_eq (tgt := 135) hX (dc_X2_read 43 rfl) (by decide) (fun h23 => ?_) (fun h23 => ?_)
    · exact g_sub [0, 1] rfl (c_X2_read_135 hX hO hΩ _ hk18 (y2) r22.2)
    · refine g_iconst (w := (1 : Int32)) hX (dc_X2_read 44 rfl) (by decide) ?_
      refine g_goto (tgt := 136) hX (dc_X2_read 45 rfl) (by decide) ?_
      exact g_sub [0, 1] rfl (c_X2_read_136 hX hO hΩ _ hk18 (y2) ((1 : Int32)) r22.2)
  · exact g_sub [0, 1] rfl (c_X2_read_135 hX hO hΩ _ hk18 (y2) σ)
def b_X2_read_18   : Nat → Int32 → Int32 → MS → Option (Int32 × MS)
  | 0, _, _, _ => none
  | n + 1, y1, y2, σ => (if y1 = 0 then (b_X2_read_143 σ) else (if (40 : Int32) < y2 then (b_X2_read_143 σ) else (f_X2_openClause y2 σ).bind (fun r26 => (if r26.1 = (0 : Int32) then (f_X2_readDuchy r26.2).bind (fun r33 => (b_X2_read_114 (b_X2_read_18  n) (y2) r33)) else (if r26.1 = (1 : Int32) then (f_X2_readKind r26.2).bind (fun r34 => (b_X2_read_114 (b_X2_read_18  n) (y2) r34)) else (if r26.1 = (2 : Int32) then (f_X2_readPerson r26.2).bind (fun r35 => (b_X2_read_114 (b_X2_read_18  n) (y2) r35)) else (if r26.1 = (3 : Int32) then (f_X2_readWork r26.2).bind (fun r36 => (b_X2_read_114 (b_X2_read_18  n) (y2) r36)) else (if r26.1 = (4 : Int32) then (f_X2_readHeld r26.2).bind (fun r37 => (b_X2_read_114 (b_X2_read_18  n) (y2) r37)) else (if r26.1 = (5 : Int32) then (f_X2_readAfter r26.2).bind (fun r38 => (b_X2_read_114 (b_X2_read_18  n) (y2) r38)) else (b_X2_read_114 (b_X2_read_18  n) (y2) r26.2))))))))))
set_option maxHeartbeats 4000000 in
set_option maxRecDepth 20000 in
theorem c_X2_read_18 {X : CX} {Ω : OM} (hX : CF X Ω RX2 cX2_read 3 (some .int) rm_X2_read) (hO : OKO Ω) (hΩ : oSH Ω = SHX)    : ∀ (n : Nat) (y1 : Int32) (y2 : Int32) (σ : MS) , GE X Ω 3 0 0 (emWI) 0 0 18 [(0, .ref 3), (1, .int y1), (2, .int y2)] [] σ (b_X2_read_18  n y1 y2 σ)
  | 0, _, _, _ => g_none
  | n + 1, y1, y2, σ => by
    have hk18 := c_X2_read_18 hX hO hΩ  n
    unfold b_X2_read_18
    refine g_iload_n hX (dc_X2_read 10 rfl) rfl 1 rfl ?_
    refine g_if_eq (tgt := 143) hX (dc_X2_read 11 rfl) (by decide) (fun h24 => ?_) (fun h24 => ?_)
    · exact g_sub [0] rfl (c_X2_read_143 hX hO hΩ σ)
    · refine g_iload_n hX (dc_X2_read 12 rfl) rfl 2 rfl ?_
      refine g_bipush (w := (40 : Int32)) hX (dc_X2_read 13 rfl) (by decide) ?_
      refine g_icmp_gt (tgt := 143) hX (dc_X2_read 14 rfl) (by decide) (fun h25 => ?_) (fun h25 => ?_)
      · exact g_sub [0] rfl (c_X2_read_143 hX hO hΩ σ)
      · refine g_aload_n hX (dc_X2_read 15 rfl) rfl 0 rfl ?_
        refine g_iload_n hX (dc_X2_read 16 rfl) rfl 2 rfl ?_
        refine gV_WI (As := [.int y2]) (st := []) hX (dc_X2_read 17 rfl) ml_X2_33 (con_X2_openClause hO hΩ y2 σ) (stS hΩ 3 rfl) rfl rfl ⟨by decide, by decide⟩ ⟨rfl, rfl⟩ ⟨Nat.zero_le _, Nat.zero_le _⟩ (Nat.le_of_ble_eq_true rfl) (fun r26 _ => ?_)
        refine g_ite (fun h27 => ?_) (fun h27 => ?_)
        · refine g_tsIn (off := 39) (tgt := 72) hX (dc_X2_read 18 rfl) (by rw [h27]; decide) (by rw [h27]; decide) (by rw [h27]; rfl) (by decide) ?_
          refine g_aload_n hX (dc_X2_read 19 rfl) rfl 0 rfl ?_
          refine gV_WV (As := []) (st := []) hX (dc_X2_read 20 rfl) ml_X2_37 (con_X2_readDuchy hO hΩ r26.2) (stS hΩ 3 rfl) rfl rfl ⟨by decide, by decide⟩ ⟨rfl, rfl⟩ ⟨Nat.zero_le _, Nat.zero_le _⟩ (Nat.le_of_ble_eq_true rfl) (fun r33 _ => ?_)
          refine g_goto (tgt := 114) hX (dc_X2_read 21 rfl) (by decide) ?_
          exact g_sub [0, 2] rfl (c_X2_read_114 hX hO hΩ _ hk18 (y2) r33)
        · refine g_ite (fun h28 => ?_) (fun h28 => ?_)
          · refine g_tsIn (off := 46) (tgt := 79) hX (dc_X2_read 18 rfl) (by rw [h28]; decide) (by rw [h28]; decide) (by rw [h28]; rfl) (by decide) ?_
            refine g_aload_n hX (dc_X2_read 22 rfl) rfl 0 rfl ?_
            refine gV_WV (As := []) (st := []) hX (dc_X2_read 23 rfl) ml_X2_40 (con_X2_readKind hO hΩ r26.2) (stS hΩ 3 rfl) rfl rfl ⟨by decide, by decide⟩ ⟨rfl, rfl⟩ ⟨Nat.zero_le _, Nat.zero_le _⟩ (Nat.le_of_ble_eq_true rfl) (fun r34 _ => ?_)
            refine g_goto (tgt := 114) hX (dc_X2_read 24 rfl) (by decide) ?_
            exact g_sub [0, 2] rfl (c_X2_read_114 hX hO hΩ _ hk18 (y2) r34)
          · refine g_ite (fun h29 => ?_) (fun h29 => ?_)
            · refine g_tsIn (off := 53) (tgt := 86) hX (dc_X2_read 18 rfl) (by rw [h29]; decide) (by rw [h29]; decide) (by rw [h29]; rfl) (by decide) ?_
              refine g_aload_n hX (dc_X2_read 25 rfl) rfl 0 rfl ?_
              refine gV_WV (As := []) (st := []) hX (dc_X2_read 26 rfl) ml_X2_43 (con_X2_readPerson hO hΩ r26.2) (stS hΩ 3 rfl) rfl rfl ⟨by decide, by decide⟩ ⟨rfl, rfl⟩ ⟨Nat.zero_le _, Nat.zero_le _⟩ (Nat.le_of_ble_eq_true rfl) (fun r35 _ => ?_)
              refine g_goto (tgt := 114) hX (dc_X2_read 27 rfl) (by decide) ?_
              exact g_sub [0, 2] rfl (c_X2_read_114 hX hO hΩ _ hk18 (y2) r35)
            · refine g_ite (fun h30 => ?_) (fun h30 => ?_)
              · refine g_tsIn (off := 60) (tgt := 93) hX (dc_X2_read 18 rfl) (by rw [h30]; decide) (by rw [h30]; decide) (by rw [h30]; rfl) (by decide) ?_
                refine g_aload_n hX (dc_X2_read 28 rfl) rfl 0 rfl ?_
                refine gV_WV (As := []) (st := []) hX (dc_X2_read 29 rfl) ml_X2_46 (con_X2_readWork hO hΩ r26.2) (stS hΩ 3 rfl) rfl rfl ⟨by decide, by decide⟩ ⟨rfl, rfl⟩ ⟨Nat.zero_le _, Nat.zero_le _⟩ (Nat.le_of_ble_eq_true rfl) (fun r36 _ => ?_)
                refine g_goto (tgt := 114) hX (dc_X2_read 30 rfl) (by decide) ?_
                exact g_sub [0, 2] rfl (c_X2_read_114 hX hO hΩ _ hk18 (y2) r36)
              · refine g_ite (fun h31 => ?_) (fun h31 => ?_)
                · refine g_tsIn (off := 67) (tgt := 100) hX (dc_X2_read 18 rfl) (by rw [h31]; decide) (by rw [h31]; decide) (by rw [h31]; rfl) (by decide) ?_
                  refine g_aload_n hX (dc_X2_read 31 rfl) rfl 0 rfl ?_
                  refine gV_WV (As := []) (st := []) hX (dc_X2_read 32 rfl) ml_X2_49 (con_X2_readHeld hO hΩ r26.2) (stS hΩ 3 rfl) rfl rfl ⟨by decide, by decide⟩ ⟨rfl, rfl⟩ ⟨Nat.zero_le _, Nat.zero_le _⟩ (Nat.le_of_ble_eq_true rfl) (fun r37 _ => ?_)
                  refine g_goto (tgt := 114) hX (dc_X2_read 33 rfl) (by decide) ?_
                  exact g_sub [0, 2] rfl (c_X2_read_114 hX hO hΩ _ hk18 (y2) r37)
                · refine g_ite (fun h32 => ?_) (fun h32 => ?_)
                  · refine g_tsIn (off := 74) (tgt := 107) hX (dc_X2_read 18 rfl) (by rw [h32]; decide) (by rw [h32]; decide) (by rw [h32]; rfl) (by decide) ?_
                    refine g_aload_n hX (dc_X2_read 34 rfl) rfl 0 rfl ?_
                    refine gV_WV (As := []) (st := []) hX (dc_X2_read 35 rfl) ml_X2_52 (con_X2_readAfter hO hΩ r26.2) (stS hΩ 3 rfl) rfl rfl ⟨by decide, by decide⟩ ⟨rfl, rfl⟩ ⟨Nat.zero_le _, Nat.zero_le _⟩ (Nat.le_of_ble_eq_true rfl) (fun r38 _ => ?_)
                    refine g_goto (tgt := 114) hX (dc_X2_read 36 rfl) (by decide) ?_
                    exact g_sub [0, 2] rfl (c_X2_read_114 hX hO hΩ _ hk18 (y2) r38)
                  · refine g_tsOut (tgt := 114) hX (dc_X2_read 18 rfl) (by have e0 := i32ne h27 (k := 0) (by decide); have e1 := i32ne h28 (k := 1) (by decide); have e2 := i32ne h29 (k := 2) (by decide); have e3 := i32ne h30 (k := 3) (by decide); have e4 := i32ne h31 (k := 4) (by decide); have e5 := i32ne h32 (k := 5) (by decide); omega) (by decide) ?_
                    exact g_sub [0, 2] rfl (c_X2_read_114 hX hO hΩ _ hk18 (y2) r26.2)
def b_X2_read_0     (σ : MS) : Option (Int32 × MS) := (f_X4_restart 16 σ).bind (fun r39 => (f_X3_clear r39).bind (fun r40 => (b_X2_read_18 FU ((1 : Int32)) ((0 : Int32)) r40)))
set_option maxHeartbeats 4000000 in
set_option maxRecDepth 20000 in
theorem c_X2_read_0 {X : CX} {Ω : OM} (hX : CF X Ω RX2 cX2_read 3 (some .int) rm_X2_read) (hO : OKO Ω) (hΩ : oSH Ω = SHX)      (σ : MS)  : GE X Ω 3 0 0 (emWI) 0 0 0 [(0, .ref 3)] [] σ (b_X2_read_0  σ) := by
  unfold b_X2_read_0
  refine g_aload_n hX (dc_X2_read 0 rfl) rfl 0 rfl ?_
  refine g_getF (q := 16) hX (dc_X2_read 1 rfl) fl_X2_23 (by decide) rfl (stS hΩ 3 rfl) rfl ?_
  refine gV_WV (As := []) (st := []) hX (dc_X2_read 2 rfl) ml_X2_27 (con_X4_restart hO hΩ 16 σ (stR hΩ 16 (by decide))) (stS hΩ 16 rfl) rfl rfl ⟨by decide, by decide⟩ ⟨rfl, rfl⟩ ⟨Nat.zero_le _, Nat.zero_le _⟩ (Nat.le_of_ble_eq_true rfl) (fun r39 _ => ?_)
  refine g_aload_n hX (dc_X2_read 3 rfl) rfl 0 rfl ?_
  refine g_getF (q := 4) hX (dc_X2_read 4 rfl) fl_X2_12 (by decide) rfl (stS hΩ 3 rfl) rfl ?_
  refine gV_WV (As := []) (st := []) hX (dc_X2_read 5 rfl) ml_X2_30 (con_X3_clear hO hΩ r39) (stS hΩ 4 rfl) rfl rfl ⟨by decide, by decide⟩ ⟨rfl, rfl⟩ ⟨Nat.zero_le _, Nat.zero_le _⟩ (Nat.le_of_ble_eq_true rfl) (fun r40 _ => ?_)
  refine g_iconst (w := (1 : Int32)) hX (dc_X2_read 6 rfl) (by decide) ?_
  refine g_istore_n (L' := [(1, .int (1 : Int32)), (0, .ref 3)]) hX (dc_X2_read 7 rfl) rfl (by decide) rfl ?_
  refine g_iconst (w := (0 : Int32)) hX (dc_X2_read 8 rfl) (by decide) ?_
  refine g_istore_n (L' := [(2, .int (0 : Int32)), (1, .int (1 : Int32)), (0, .ref 3)]) hX (dc_X2_read 9 rfl) rfl (by decide) rfl ?_
  exact g_sub [2, 1, 0] rfl (c_X2_read_18 hX hO hΩ FU ((1 : Int32)) ((0 : Int32)) r40)
def f_X2_read  (σ : MS) : Option (Int32 × MS) := b_X2_read_0   σ
theorem con_X2_read {Ω : OM} (hO : OKO Ω) (hΩ : oSH Ω = SHX)  (σ : MS)  : Con Ω yX2_read cX2_read 3 (some .int) rm_X2_read (emWI) [.ref 3] σ (f_X2_read  σ) :=
  con_of hO (by decide +kernel) (Nat.le_of_ble_eq_true rfl) rfl (fun X hX _ => c_X2_read_0 hX hO hΩ    σ )
def it_X8_copyFrom : List (Nat × Instr × Nat × Nat) := [(0, .aload_n 1, 1, 1), (1, .getfield 9, 3, 4), (4, .iconst 0, 1, 5), (5, .aload_n 0, 1, 6), (6, .getfield 9, 3, 9), (9, .iconst 0, 1, 10), (10, .bipush 6, 2, 12), (12, .invokestatic 37, 3, 15), (15, .aload_n 1, 1, 16), (16, .getfield 15, 3, 19), (19, .iconst 0, 1, 20), (20, .aload_n 0, 1, 21), (21, .getfield 15, 3, 24), (24, .iconst 0, 1, 25), (25, .bipush 6, 2, 27), (27, .invokestatic 37, 3, 30), (30, .aload_n 1, 1, 31), (31, .getfield 18, 3, 34), (34, .iconst 0, 1, 35), (35, .aload_n 0, 1, 36), (36, .getfield 18, 3, 39), (39, .iconst 0, 1, 40), (40, .iconst 4, 1, 41), (41, .invokestatic 37, 3, 44), (44, .aload_n 0, 1, 45), (45, .aload_n 1, 1, 46), (46, .getfield 27, 3, 49), (49, .putfield 27, 3, 52), (52, .aload_n 0, 1, 53), (53, .aload_n 1, 1, 54), (54, .getfield 31, 3, 57), (57, .putfield 31, 3, 60), (60, .aload_n 0, 1, 61), (61, .aload_n 1, 1, 62), (62, .getfield 34, 3, 65), (65, .putfield 34, 3, 68), (68, .return_, 1, 69)]
theorem id_X8_copyFrom : ∀ q ∈ it_X8_copyFrom, decode cX8_copyFrom q.1 = .ok (q.2.1, q.2.2.1) ∧ q.1 + q.2.2.1 = q.2.2.2 := by decide +kernel
theorem dc_X8_copyFrom {pc : Nat} {i : Instr} {n pc' : Nat} (j : Nat) (h : it_X8_copyFrom[j]? = some (pc, i, n, pc')) : Dc cX8_copyFrom pc i n pc' := dc_of id_X8_copyFrom j h
abbrev rm_X8_copyFrom : Room := { frames := 1, cells := 0, slots := 0, locals := 60 }
def b_X8_copyFrom_52 (a0 : Nat) (a1 : Nat)    (σ : MS) : Option (MS) := some ((wI (wI σ a0 4 (sI σ a1 4)) a0 5 (sI (wI σ a0 4 (sI σ a1 4)) a1 5)))
set_option maxHeartbeats 4000000 in
set_option maxRecDepth 20000 in
theorem c_X8_copyFrom_52 {X : CX} {Ω : OM} (hX : CF X Ω RX8 cX8_copyFrom 2 none rm_X8_copyFrom) (hO : OKO Ω) (hΩ : oSH Ω = SHX) (a0 : Nat) (a1 : Nat)     (σ : MS) (ha0 : tRt Ω σ a0 shState) (ha1 : tRt Ω σ a1 shState) : GE X Ω 2 0 0 (emWV) 0 0 52 [(0, .ref a0), (1, .ref a1)] [] σ (b_X8_copyFrom_52 a0 a1 σ) := by
  unfold b_X8_copyFrom_52
  refine g_aload_n hX (dc_X8_copyFrom 28 rfl) rfl 0 rfl ?_
  refine g_aload_n hX (dc_X8_copyFrom 29 rfl) rfl 1 rfl ?_
  refine g_getI hX (dc_X8_copyFrom 30 rfl) fl_X8_31 (by decide) rfl (ha1 0 _ rfl) ?_
  refine g_putI (raw := false) hX (dc_X8_copyFrom 31 rfl) fl_X8_31 (by decide) ⟨rfl, rfl⟩ ⟨rfl, rfl⟩ (ha0 0 _ rfl) ?_
  refine g_aload_n hX (dc_X8_copyFrom 32 rfl) rfl 0 rfl ?_
  refine g_aload_n hX (dc_X8_copyFrom 33 rfl) rfl 1 rfl ?_
  refine g_getI hX (dc_X8_copyFrom 34 rfl) fl_X8_34 (by decide) rfl (ha1 0 _ rfl) ?_
  refine g_putI (raw := false) hX (dc_X8_copyFrom 35 rfl) fl_X8_34 (by decide) ⟨rfl, rfl⟩ ⟨rfl, rfl⟩ (ha0 0 _ rfl) ?_
  exact g_vret hX (dc_X8_copyFrom 36 rfl) rfl (Nat.le_refl _) (Nat.le_refl _)
def b_X8_copyFrom_30 (a0 : Nat) (a1 : Nat)    (σ : MS) : Option (MS) := (b_X8_copyFrom_52 a0 a1 (wI (wW σ (a0 + 3) (va_cpy (sI σ (a1 + 3)) (sI σ (a0 + 3)) (ix (0 : Int32)) (ix (0 : Int32)) (ix (4 : Int32)))) a0 3 (sI (wW σ (a0 + 3) (va_cpy (sI σ (a1 + 3)) (sI σ (a0 + 3)) (ix (0 : Int32)) (ix (0 : Int32)) (ix (4 : Int32)))) a1 3)))
set_option maxHeartbeats 4000000 in
set_option maxRecDepth 20000 in
theorem c_X8_copyFrom_30 {X : CX} {Ω : OM} (hX : CF X Ω RX8 cX8_copyFrom 2 none rm_X8_copyFrom) (hO : OKO Ω) (hΩ : oSH Ω = SHX) (a0 : Nat) (a1 : Nat)     (σ : MS) (ha0 : tRt Ω σ a0 shState) (ha1 : tRt Ω σ a1 shState) : GE X Ω 2 0 0 (emWV) 0 0 30 [(0, .ref a0), (1, .ref a1)] [] σ (b_X8_copyFrom_30 a0 a1 σ) := by
  unfold b_X8_copyFrom_30
  refine g_aload_n hX (dc_X8_copyFrom 16 rfl) rfl 1 rfl ?_
  refine g_getF (q := (a1 + 3)) hX (dc_X8_copyFrom 17 rfl) fl_X8_18 (by decide) rfl (ha1 0 _ rfl) rfl ?_
  refine g_iconst (w := (0 : Int32)) hX (dc_X8_copyFrom 18 rfl) (by decide) ?_
  refine g_aload_n hX (dc_X8_copyFrom 19 rfl) rfl 0 rfl ?_
  refine g_getF (q := (a0 + 3)) hX (dc_X8_copyFrom 20 rfl) fl_X8_18 (by decide) rfl (ha0 0 _ rfl) rfl ?_
  refine g_iconst (w := (0 : Int32)) hX (dc_X8_copyFrom 21 rfl) (by decide) ?_
  refine g_iconst (w := (4 : Int32)) hX (dc_X8_copyFrom 22 rfl) (by decide) ?_
  refine g_copy hX (dc_X8_copyFrom 23 rfl) ma_X8_37 (ha1 3 _ rfl) (ha0 3 _ rfl) (by decide) (by decide) (by decide) (Nat.le_of_ble_eq_true rfl) ?_
  refine g_aload_n hX (dc_X8_copyFrom 24 rfl) rfl 0 rfl ?_
  refine g_aload_n hX (dc_X8_copyFrom 25 rfl) rfl 1 rfl ?_
  refine g_getI hX (dc_X8_copyFrom 26 rfl) fl_X8_27 (by decide) rfl (ha1 0 _ rfl) ?_
  refine g_putI (raw := false) hX (dc_X8_copyFrom 27 rfl) fl_X8_27 (by decide) ⟨rfl, rfl⟩ ⟨rfl, rfl⟩ (ha0 0 _ rfl) ?_
  exact g_sub [0, 1] rfl (c_X8_copyFrom_52 hX hO hΩ a0 a1 (wI (wW σ (a0 + 3) (va_cpy (sI σ (a1 + 3)) (sI σ (a0 + 3)) (ix (0 : Int32)) (ix (0 : Int32)) (ix (4 : Int32)))) a0 3 (sI (wW σ (a0 + 3) (va_cpy (sI σ (a1 + 3)) (sI σ (a0 + 3)) (ix (0 : Int32)) (ix (0 : Int32)) (ix (4 : Int32)))) a1 3)) ha0 ha1)
def b_X8_copyFrom_0 (a0 : Nat) (a1 : Nat)    (σ : MS) : Option (MS) := (b_X8_copyFrom_30 a0 a1 (wW (wW σ (a0 + 1) (va_cpy (sI σ (a1 + 1)) (sI σ (a0 + 1)) (ix (0 : Int32)) (ix (0 : Int32)) (ix (6 : Int32)))) (a0 + 2) (va_cpy (sI (wW σ (a0 + 1) (va_cpy (sI σ (a1 + 1)) (sI σ (a0 + 1)) (ix (0 : Int32)) (ix (0 : Int32)) (ix (6 : Int32)))) (a1 + 2)) (sI (wW σ (a0 + 1) (va_cpy (sI σ (a1 + 1)) (sI σ (a0 + 1)) (ix (0 : Int32)) (ix (0 : Int32)) (ix (6 : Int32)))) (a0 + 2)) (ix (0 : Int32)) (ix (0 : Int32)) (ix (6 : Int32)))))
set_option maxHeartbeats 4000000 in
set_option maxRecDepth 20000 in
theorem c_X8_copyFrom_0 {X : CX} {Ω : OM} (hX : CF X Ω RX8 cX8_copyFrom 2 none rm_X8_copyFrom) (hO : OKO Ω) (hΩ : oSH Ω = SHX) (a0 : Nat) (a1 : Nat)     (σ : MS) (ha0 : tRt Ω σ a0 shState) (ha1 : tRt Ω σ a1 shState) : GE X Ω 2 0 0 (emWV) 0 0 0 [(0, .ref a0), (1, .ref a1)] [] σ (b_X8_copyFrom_0 a0 a1 σ) := by
  unfold b_X8_copyFrom_0
  refine g_aload_n hX (dc_X8_copyFrom 0 rfl) rfl 1 rfl ?_
  refine g_getF (q := (a1 + 1)) hX (dc_X8_copyFrom 1 rfl) fl_X8_9 (by decide) rfl (ha1 0 _ rfl) rfl ?_
  refine g_iconst (w := (0 : Int32)) hX (dc_X8_copyFrom 2 rfl) (by decide) ?_
  refine g_aload_n hX (dc_X8_copyFrom 3 rfl) rfl 0 rfl ?_
  refine g_getF (q := (a0 + 1)) hX (dc_X8_copyFrom 4 rfl) fl_X8_9 (by decide) rfl (ha0 0 _ rfl) rfl ?_
  refine g_iconst (w := (0 : Int32)) hX (dc_X8_copyFrom 5 rfl) (by decide) ?_
  refine g_bipush (w := (6 : Int32)) hX (dc_X8_copyFrom 6 rfl) (by decide) ?_
  refine g_copy hX (dc_X8_copyFrom 7 rfl) ma_X8_37 (ha1 1 _ rfl) (ha0 1 _ rfl) (by decide) (by decide) (by decide) (Nat.le_of_ble_eq_true rfl) ?_
  refine g_aload_n hX (dc_X8_copyFrom 8 rfl) rfl 1 rfl ?_
  refine g_getF (q := (a1 + 2)) hX (dc_X8_copyFrom 9 rfl) fl_X8_15 (by decide) rfl (ha1 0 _ rfl) rfl ?_
  refine g_iconst (w := (0 : Int32)) hX (dc_X8_copyFrom 10 rfl) (by decide) ?_
  refine g_aload_n hX (dc_X8_copyFrom 11 rfl) rfl 0 rfl ?_
  refine g_getF (q := (a0 + 2)) hX (dc_X8_copyFrom 12 rfl) fl_X8_15 (by decide) rfl (ha0 0 _ rfl) rfl ?_
  refine g_iconst (w := (0 : Int32)) hX (dc_X8_copyFrom 13 rfl) (by decide) ?_
  refine g_bipush (w := (6 : Int32)) hX (dc_X8_copyFrom 14 rfl) (by decide) ?_
  refine g_copy hX (dc_X8_copyFrom 15 rfl) ma_X8_37 (ha1 2 _ rfl) (ha0 2 _ rfl) (by decide) (by decide) (by decide) (Nat.le_of_ble_eq_true rfl) ?_
  exact g_sub [0, 1] rfl (c_X8_copyFrom_30 hX hO hΩ a0 a1 (wW (wW σ (a0 + 1) (va_cpy (sI σ (a1 + 1)) (sI σ (a0 + 1)) (ix (0 : Int32)) (ix (0 : Int32)) (ix (6 : Int32)))) (a0 + 2) (va_cpy (sI (wW σ (a0 + 1) (va_cpy (sI σ (a1 + 1)) (sI σ (a0 + 1)) (ix (0 : Int32)) (ix (0 : Int32)) (ix (6 : Int32)))) (a1 + 2)) (sI (wW σ (a0 + 1) (va_cpy (sI σ (a1 + 1)) (sI σ (a0 + 1)) (ix (0 : Int32)) (ix (0 : Int32)) (ix (6 : Int32)))) (a0 + 2)) (ix (0 : Int32)) (ix (0 : Int32)) (ix (6 : Int32)))) ha0 ha1)
def f_X8_copyFrom (a0 : Nat) (a1 : Nat) (σ : MS) : Option (MS) := b_X8_copyFrom_0 a0 a1  σ
theorem con_X8_copyFrom {Ω : OM} (hO : OKO Ω) (hΩ : oSH Ω = SHX) (a0 : Nat) (a1 : Nat) (σ : MS) (ha0 : tRt Ω σ a0 shState) (ha1 : tRt Ω σ a1 shState) : Con Ω yX8_copyFrom cX8_copyFrom 2 none rm_X8_copyFrom (emWV) [.ref a0, .ref a1] σ (f_X8_copyFrom a0 a1 σ) :=
  con_of hO (by decide +kernel) (Nat.le_of_ble_eq_true rfl) rfl (fun X hX _ => c_X8_copyFrom_0 hX hO hΩ a0 a1   σ ha0 ha1)
def it_X3_copyFrom : List (Nat × Instr × Nat × Nat) := [(0, .aload_n 0, 1, 1), (1, .aload_n 1, 1, 2), (2, .getfield 40, 3, 5), (5, .putfield 40, 3, 8), (8, .aload_n 0, 1, 9), (9, .aload_n 1, 1, 10), (10, .getfield 44, 3, 13), (13, .putfield 44, 3, 16), (16, .aload_n 0, 1, 17), (17, .aload_n 1, 1, 18), (18, .getfield 48, 3, 21), (21, .putfield 48, 3, 24), (24, .aload_n 0, 1, 25), (25, .aload_n 1, 1, 26), (26, .getfield 51, 3, 29), (29, .putfield 51, 3, 32), (32, .aload_n 0, 1, 33), (33, .aload_n 1, 1, 34), (34, .getfield 54, 3, 37), (37, .putfield 54, 3, 40), (40, .aload_n 1, 1, 41), (41, .getfield 9, 3, 44), (44, .iconst 0, 1, 45), (45, .aload_n 0, 1, 46), (46, .getfield 9, 3, 49), (49, .iconst 0, 1, 50), (50, .iconst 5, 1, 51), (51, .invokestatic 60, 3, 54), (54, .aload_n 1, 1, 55), (55, .getfield 15, 3, 58), (58, .iconst 0, 1, 59), (59, .aload_n 0, 1, 60), (60, .getfield 15, 3, 63), (63, .iconst 0, 1, 64), (64, .iconst 5, 1, 65), (65, .invokestatic 60, 3, 68), (68, .aload_n 1, 1, 69), (69, .getfield 18, 3, 72), (72, .iconst 0, 1, 73), (73, .aload_n 0, 1, 74), (74, .getfield 18, 3, 77), (77, .iconst 0, 1, 78), (78, .iconst 4, 1, 79), (79, .invokestatic 60, 3, 82), (82, .aload_n 1, 1, 83), (83, .getfield 21, 3, 86), (86, .iconst 0, 1, 87), (87, .aload_n 0, 1, 88), (88, .getfield 21, 3, 91), (91, .iconst 0, 1, 92), (92, .iconst 4, 1, 93), (93, .invokestatic 60, 3, 96), (96, .aload_n 1, 1, 97), (97, .getfield 24, 3, 100), (100, .iconst 0, 1, 101), (101, .aload_n 0, 1, 102), (102, .getfield 24, 3, 105), (105, .iconst 0, 1, 106), (106, .iconst 4, 1, 107), (107, .invokestatic 60, 3, 110), (110, .aload_n 1, 1, 111), (111, .getfield 27, 3, 114), (114, .iconst 0, 1, 115), (115, .aload_n 0, 1, 116), (116, .getfield 27, 3, 119), (119, .iconst 0, 1, 120), (120, .bipush 6, 2, 122), (122, .invokestatic 60, 3, 125), (125, .aload_n 1, 1, 126), (126, .getfield 30, 3, 129), (129, .iconst 0, 1, 130), (130, .aload_n 0, 1, 131), (131, .getfield 30, 3, 134), (134, .iconst 0, 1, 135), (135, .bipush 6, 2, 137), (137, .invokestatic 60, 3, 140), (140, .aload_n 0, 1, 141), (141, .getfield 36, 3, 144), (144, .aload_n 1, 1, 145), (145, .getfield 36, 3, 148), (148, .invokevirtual 66, 3, 151), (151, .return_, 1, 152)]
theorem id_X3_copyFrom : ∀ q ∈ it_X3_copyFrom, decode cX3_copyFrom q.1 = .ok (q.2.1, q.2.2.1) ∧ q.1 + q.2.2.1 = q.2.2.2 := by decide +kernel
theorem dc_X3_copyFrom {pc : Nat} {i : Instr} {n pc' : Nat} (j : Nat) (h : it_X3_copyFrom[j]? = some (pc, i, n, pc')) : Dc cX3_copyFrom pc i n pc' := dc_of id_X3_copyFrom j h
abbrev rm_X3_copyFrom : Room := { frames := 2, cells := 0, slots := 0, locals := 81 }
def b_X3_copyFrom_140 (a0 : Nat) (a1 : Nat)    (σ : MS) : Option (MS) := (f_X8_copyFrom (a0 + 8) (a1 + 8) σ).bind (fun r3 => some (r3))
set_option maxHeartbeats 4000000 in
set_option maxRecDepth 20000 in
theorem c_X3_copyFrom_140 {X : CX} {Ω : OM} (hX : CF X Ω RX3 cX3_copyFrom 2 none rm_X3_copyFrom) (hO : OKO Ω) (hΩ : oSH Ω = SHX) (a0 : Nat) (a1 : Nat)     (σ : MS) (ha0 : tRt Ω σ a0 shLand) (ha1 : tRt Ω σ a1 shLand) : GE X Ω 2 0 0 (emWV) 0 0 140 [(0, .ref a0), (1, .ref a1)] [] σ (b_X3_copyFrom_140 a0 a1 σ) := by
  unfold b_X3_copyFrom_140
  refine g_aload_n hX (dc_X3_copyFrom 76 rfl) rfl 0 rfl ?_
  refine g_getF (q := (a0 + 8)) hX (dc_X3_copyFrom 77 rfl) fl_X3_36 (by decide) rfl (ha0 0 _ rfl) rfl ?_
  refine g_aload_n hX (dc_X3_copyFrom 78 rfl) rfl 1 rfl ?_
  refine g_getF (q := (a1 + 8)) hX (dc_X3_copyFrom 79 rfl) fl_X3_36 (by decide) rfl (ha1 0 _ rfl) rfl ?_
  refine gV_WV (As := [.ref (a1 + 8)]) (st := []) hX (dc_X3_copyFrom 80 rfl) ml_X3_66 (con_X8_copyFrom hO hΩ (a0 + 8) (a1 + 8) σ (tsub ha0 8 (by decide)) (tsub ha1 8 (by decide))) (ha0 8 _ rfl) rfl rfl ⟨by decide, by decide⟩ ⟨rfl, rfl⟩ ⟨Nat.zero_le _, Nat.zero_le _⟩ (Nat.le_of_ble_eq_true rfl) (fun r3 _ => ?_)
  exact g_vret hX (dc_X3_copyFrom 81 rfl) rfl (Nat.le_refl _) (Nat.le_refl _)
def b_X3_copyFrom_110 (a0 : Nat) (a1 : Nat)    (σ : MS) : Option (MS) := (b_X3_copyFrom_140 a0 a1 (wW (wW σ (a0 + 6) (va_cpy (sI σ (a1 + 6)) (sI σ (a0 + 6)) (ix (0 : Int32)) (ix (0 : Int32)) (ix (6 : Int32)))) (a0 + 7) (va_cpy (sI (wW σ (a0 + 6) (va_cpy (sI σ (a1 + 6)) (sI σ (a0 + 6)) (ix (0 : Int32)) (ix (0 : Int32)) (ix (6 : Int32)))) (a1 + 7)) (sI (wW σ (a0 + 6) (va_cpy (sI σ (a1 + 6)) (sI σ (a0 + 6)) (ix (0 : Int32)) (ix (0 : Int32)) (ix (6 : Int32)))) (a0 + 7)) (ix (0 : Int32)) (ix (0 : Int32)) (ix (6 : Int32)))))
set_option maxHeartbeats 4000000 in
set_option maxRecDepth 20000 in
theorem c_X3_copyFrom_110 {X : CX} {Ω : OM} (hX : CF X Ω RX3 cX3_copyFrom 2 none rm_X3_copyFrom) (hO : OKO Ω) (hΩ : oSH Ω = SHX) (a0 : Nat) (a1 : Nat)     (σ : MS) (ha0 : tRt Ω σ a0 shLand) (ha1 : tRt Ω σ a1 shLand) : GE X Ω 2 0 0 (emWV) 0 0 110 [(0, .ref a0), (1, .ref a1)] [] σ (b_X3_copyFrom_110 a0 a1 σ) := by
  unfold b_X3_copyFrom_110
  refine g_aload_n hX (dc_X3_copyFrom 60 rfl) rfl 1 rfl ?_
  refine g_getF (q := (a1 + 6)) hX (dc_X3_copyFrom 61 rfl) fl_X3_27 (by decide) rfl (ha1 0 _ rfl) rfl ?_
  refine g_iconst (w := (0 : Int32)) hX (dc_X3_copyFrom 62 rfl) (by decide) ?_
  refine g_aload_n hX (dc_X3_copyFrom 63 rfl) rfl 0 rfl ?_
  refine g_getF (q := (a0 + 6)) hX (dc_X3_copyFrom 64 rfl) fl_X3_27 (by decide) rfl (ha0 0 _ rfl) rfl ?_
  refine g_iconst (w := (0 : Int32)) hX (dc_X3_copyFrom 65 rfl) (by decide) ?_
  refine g_bipush (w := (6 : Int32)) hX (dc_X3_copyFrom 66 rfl) (by decide) ?_
  refine g_copy hX (dc_X3_copyFrom 67 rfl) ma_X3_60 (ha1 6 _ rfl) (ha0 6 _ rfl) (by decide) (by decide) (by decide) (Nat.le_of_ble_eq_true rfl) ?_
  refine g_aload_n hX (dc_X3_copyFrom 68 rfl) rfl 1 rfl ?_
  refine g_getF (q := (a1 + 7)) hX (dc_X3_copyFrom 69 rfl) fl_X3_30 (by decide) rfl (ha1 0 _ rfl) rfl ?_
  refine g_iconst (w := (0 : Int32)) hX (dc_X3_copyFrom 70 rfl) (by decide) ?_
  refine g_aload_n hX (dc_X3_copyFrom 71 rfl) rfl 0 rfl ?_
  refine g_getF (q := (a0 + 7)) hX (dc_X3_copyFrom 72 rfl) fl_X3_30 (by decide) rfl (ha0 0 _ rfl) rfl ?_
  refine g_iconst (w := (0 : Int32)) hX (dc_X3_copyFrom 73 rfl) (by decide) ?_
  refine g_bipush (w := (6 : Int32)) hX (dc_X3_copyFrom 74 rfl) (by decide) ?_
  refine g_copy hX (dc_X3_copyFrom 75 rfl) ma_X3_60 (ha1 7 _ rfl) (ha0 7 _ rfl) (by decide) (by decide) (by decide) (Nat.le_of_ble_eq_true rfl) ?_
  exact g_sub [0, 1] rfl (c_X3_copyFrom_140 hX hO hΩ a0 a1 (wW (wW σ (a0 + 6) (va_cpy (sI σ (a1 + 6)) (sI σ (a0 + 6)) (ix (0 : Int32)) (ix (0 : Int32)) (ix (6 : Int32)))) (a0 + 7) (va_cpy (sI (wW σ (a0 + 6) (va_cpy (sI σ (a1 + 6)) (sI σ (a0 + 6)) (ix (0 : Int32)) (ix (0 : Int32)) (ix (6 : Int32)))) (a1 + 7)) (sI (wW σ (a0 + 6) (va_cpy (sI σ (a1 + 6)) (sI σ (a0 + 6)) (ix (0 : Int32)) (ix (0 : Int32)) (ix (6 : Int32)))) (a0 + 7)) (ix (0 : Int32)) (ix (0 : Int32)) (ix (6 : Int32)))) ha0 ha1)
def b_X3_copyFrom_82 (a0 : Nat) (a1 : Nat)    (σ : MS) : Option (MS) := (b_X3_copyFrom_110 a0 a1 (wW (wW σ (a0 + 4) (va_cpy (sI σ (a1 + 4)) (sI σ (a0 + 4)) (ix (0 : Int32)) (ix (0 : Int32)) (ix (4 : Int32)))) (a0 + 5) (va_cpy (sI (wW σ (a0 + 4) (va_cpy (sI σ (a1 + 4)) (sI σ (a0 + 4)) (ix (0 : Int32)) (ix (0 : Int32)) (ix (4 : Int32)))) (a1 + 5)) (sI (wW σ (a0 + 4) (va_cpy (sI σ (a1 + 4)) (sI σ (a0 + 4)) (ix (0 : Int32)) (ix (0 : Int32)) (ix (4 : Int32)))) (a0 + 5)) (ix (0 : Int32)) (ix (0 : Int32)) (ix (4 : Int32)))))
set_option maxHeartbeats 4000000 in
set_option maxRecDepth 20000 in
theorem c_X3_copyFrom_82 {X : CX} {Ω : OM} (hX : CF X Ω RX3 cX3_copyFrom 2 none rm_X3_copyFrom) (hO : OKO Ω) (hΩ : oSH Ω = SHX) (a0 : Nat) (a1 : Nat)     (σ : MS) (ha0 : tRt Ω σ a0 shLand) (ha1 : tRt Ω σ a1 shLand) : GE X Ω 2 0 0 (emWV) 0 0 82 [(0, .ref a0), (1, .ref a1)] [] σ (b_X3_copyFrom_82 a0 a1 σ) := by
  unfold b_X3_copyFrom_82
  refine g_aload_n hX (dc_X3_copyFrom 44 rfl) rfl 1 rfl ?_
  refine g_getF (q := (a1 + 4)) hX (dc_X3_copyFrom 45 rfl) fl_X3_21 (by decide) rfl (ha1 0 _ rfl) rfl ?_
  refine g_iconst (w := (0 : Int32)) hX (dc_X3_copyFrom 46 rfl) (by decide) ?_
  refine g_aload_n hX (dc_X3_copyFrom 47 rfl) rfl 0 rfl ?_
  refine g_getF (q := (a0 + 4)) hX (dc_X3_copyFrom 48 rfl) fl_X3_21 (by decide) rfl (ha0 0 _ rfl) rfl ?_
  refine g_iconst (w := (0 : Int32)) hX (dc_X3_copyFrom 49 rfl) (by decide) ?_
  refine g_iconst (w := (4 : Int32)) hX (dc_X3_copyFrom 50 rfl) (by decide) ?_
  refine g_copy hX (dc_X3_copyFrom 51 rfl) ma_X3_60 (ha1 4 _ rfl) (ha0 4 _ rfl) (by decide) (by decide) (by decide) (Nat.le_of_ble_eq_true rfl) ?_
  refine g_aload_n hX (dc_X3_copyFrom 52 rfl) rfl 1 rfl ?_
  refine g_getF (q := (a1 + 5)) hX (dc_X3_copyFrom 53 rfl) fl_X3_24 (by decide) rfl (ha1 0 _ rfl) rfl ?_
  refine g_iconst (w := (0 : Int32)) hX (dc_X3_copyFrom 54 rfl) (by decide) ?_
  refine g_aload_n hX (dc_X3_copyFrom 55 rfl) rfl 0 rfl ?_
  refine g_getF (q := (a0 + 5)) hX (dc_X3_copyFrom 56 rfl) fl_X3_24 (by decide) rfl (ha0 0 _ rfl) rfl ?_
  refine g_iconst (w := (0 : Int32)) hX (dc_X3_copyFrom 57 rfl) (by decide) ?_
  refine g_iconst (w := (4 : Int32)) hX (dc_X3_copyFrom 58 rfl) (by decide) ?_
  refine g_copy hX (dc_X3_copyFrom 59 rfl) ma_X3_60 (ha1 5 _ rfl) (ha0 5 _ rfl) (by decide) (by decide) (by decide) (Nat.le_of_ble_eq_true rfl) ?_
  exact g_sub [0, 1] rfl (c_X3_copyFrom_110 hX hO hΩ a0 a1 (wW (wW σ (a0 + 4) (va_cpy (sI σ (a1 + 4)) (sI σ (a0 + 4)) (ix (0 : Int32)) (ix (0 : Int32)) (ix (4 : Int32)))) (a0 + 5) (va_cpy (sI (wW σ (a0 + 4) (va_cpy (sI σ (a1 + 4)) (sI σ (a0 + 4)) (ix (0 : Int32)) (ix (0 : Int32)) (ix (4 : Int32)))) (a1 + 5)) (sI (wW σ (a0 + 4) (va_cpy (sI σ (a1 + 4)) (sI σ (a0 + 4)) (ix (0 : Int32)) (ix (0 : Int32)) (ix (4 : Int32)))) (a0 + 5)) (ix (0 : Int32)) (ix (0 : Int32)) (ix (4 : Int32)))) ha0 ha1)
def b_X3_copyFrom_54 (a0 : Nat) (a1 : Nat)    (σ : MS) : Option (MS) := (b_X3_copyFrom_82 a0 a1 (wW (wW σ (a0 + 2) (va_cpy (sI σ (a1 + 2)) (sI σ (a0 + 2)) (ix (0 : Int32)) (ix (0 : Int32)) (ix (5 : Int32)))) (a0 + 3) (va_cpy (sI (wW σ (a0 + 2) (va_cpy (sI σ (a1 + 2)) (sI σ (a0 + 2)) (ix (0 : Int32)) (ix (0 : Int32)) (ix (5 : Int32)))) (a1 + 3)) (sI (wW σ (a0 + 2) (va_cpy (sI σ (a1 + 2)) (sI σ (a0 + 2)) (ix (0 : Int32)) (ix (0 : Int32)) (ix (5 : Int32)))) (a0 + 3)) (ix (0 : Int32)) (ix (0 : Int32)) (ix (4 : Int32)))))
set_option maxHeartbeats 4000000 in
set_option maxRecDepth 20000 in
theorem c_X3_copyFrom_54 {X : CX} {Ω : OM} (hX : CF X Ω RX3 cX3_copyFrom 2 none rm_X3_copyFrom) (hO : OKO Ω) (hΩ : oSH Ω = SHX) (a0 : Nat) (a1 : Nat)     (σ : MS) (ha0 : tRt Ω σ a0 shLand) (ha1 : tRt Ω σ a1 shLand) : GE X Ω 2 0 0 (emWV) 0 0 54 [(0, .ref a0), (1, .ref a1)] [] σ (b_X3_copyFrom_54 a0 a1 σ) := by
  unfold b_X3_copyFrom_54
  refine g_aload_n hX (dc_X3_copyFrom 28 rfl) rfl 1 rfl ?_
  refine g_getF (q := (a1 + 2)) hX (dc_X3_copyFrom 29 rfl) fl_X3_15 (by decide) rfl (ha1 0 _ rfl) rfl ?_
  refine g_iconst (w := (0 : Int32)) hX (dc_X3_copyFrom 30 rfl) (by decide) ?_
  refine g_aload_n hX (dc_X3_copyFrom 31 rfl) rfl 0 rfl ?_
  refine g_getF (q := (a0 + 2)) hX (dc_X3_copyFrom 32 rfl) fl_X3_15 (by decide) rfl (ha0 0 _ rfl) rfl ?_
  refine g_iconst (w := (0 : Int32)) hX (dc_X3_copyFrom 33 rfl) (by decide) ?_
  refine g_iconst (w := (5 : Int32)) hX (dc_X3_copyFrom 34 rfl) (by decide) ?_
  refine g_copy hX (dc_X3_copyFrom 35 rfl) ma_X3_60 (ha1 2 _ rfl) (ha0 2 _ rfl) (by decide) (by decide) (by decide) (Nat.le_of_ble_eq_true rfl) ?_
  refine g_aload_n hX (dc_X3_copyFrom 36 rfl) rfl 1 rfl ?_
  refine g_getF (q := (a1 + 3)) hX (dc_X3_copyFrom 37 rfl) fl_X3_18 (by decide) rfl (ha1 0 _ rfl) rfl ?_
  refine g_iconst (w := (0 : Int32)) hX (dc_X3_copyFrom 38 rfl) (by decide) ?_
  refine g_aload_n hX (dc_X3_copyFrom 39 rfl) rfl 0 rfl ?_
  refine g_getF (q := (a0 + 3)) hX (dc_X3_copyFrom 40 rfl) fl_X3_18 (by decide) rfl (ha0 0 _ rfl) rfl ?_
  refine g_iconst (w := (0 : Int32)) hX (dc_X3_copyFrom 41 rfl) (by decide) ?_
  refine g_iconst (w := (4 : Int32)) hX (dc_X3_copyFrom 42 rfl) (by decide) ?_
  refine g_copy hX (dc_X3_copyFrom 43 rfl) ma_X3_60 (ha1 3 _ rfl) (ha0 3 _ rfl) (by decide) (by decide) (by decide) (Nat.le_of_ble_eq_true rfl) ?_
  exact g_sub [0, 1] rfl (c_X3_copyFrom_82 hX hO hΩ a0 a1 (wW (wW σ (a0 + 2) (va_cpy (sI σ (a1 + 2)) (sI σ (a0 + 2)) (ix (0 : Int32)) (ix (0 : Int32)) (ix (5 : Int32)))) (a0 + 3) (va_cpy (sI (wW σ (a0 + 2) (va_cpy (sI σ (a1 + 2)) (sI σ (a0 + 2)) (ix (0 : Int32)) (ix (0 : Int32)) (ix (5 : Int32)))) (a1 + 3)) (sI (wW σ (a0 + 2) (va_cpy (sI σ (a1 + 2)) (sI σ (a0 + 2)) (ix (0 : Int32)) (ix (0 : Int32)) (ix (5 : Int32)))) (a0 + 3)) (ix (0 : Int32)) (ix (0 : Int32)) (ix (4 : Int32)))) ha0 ha1)
def b_X3_copyFrom_24 (a0 : Nat) (a1 : Nat)    (σ : MS) : Option (MS) := (b_X3_copyFrom_54 a0 a1 (wW (wI (wI σ a0 3 (sI σ a1 3)) a0 4 (sI (wI σ a0 3 (sI σ a1 3)) a1 4)) (a0 + 1) (va_cpy (sI (wI (wI σ a0 3 (sI σ a1 3)) a0 4 (sI (wI σ a0 3 (sI σ a1 3)) a1 4)) (a1 + 1)) (sI (wI (wI σ a0 3 (sI σ a1 3)) a0 4 (sI (wI σ a0 3 (sI σ a1 3)) a1 4)) (a0 + 1)) (ix (0 : Int32)) (ix (0 : Int32)) (ix (5 : Int32)))))
set_option maxHeartbeats 4000000 in
set_option maxRecDepth 20000 in
theorem c_X3_copyFrom_24 {X : CX} {Ω : OM} (hX : CF X Ω RX3 cX3_copyFrom 2 none rm_X3_copyFrom) (hO : OKO Ω) (hΩ : oSH Ω = SHX) (a0 : Nat) (a1 : Nat)     (σ : MS) (ha0 : tRt Ω σ a0 shLand) (ha1 : tRt Ω σ a1 shLand) : GE X Ω 2 0 0 (emWV) 0 0 24 [(0, .ref a0), (1, .ref a1)] [] σ (b_X3_copyFrom_24 a0 a1 σ) := by
  unfold b_X3_copyFrom_24
  refine g_aload_n hX (dc_X3_copyFrom 12 rfl) rfl 0 rfl ?_
  refine g_aload_n hX (dc_X3_copyFrom 13 rfl) rfl 1 rfl ?_
  refine g_getI hX (dc_X3_copyFrom 14 rfl) fl_X3_51 (by decide) rfl (ha1 0 _ rfl) ?_
  refine g_putI (raw := false) hX (dc_X3_copyFrom 15 rfl) fl_X3_51 (by decide) ⟨rfl, rfl⟩ ⟨rfl, rfl⟩ (ha0 0 _ rfl) ?_
  refine g_aload_n hX (dc_X3_copyFrom 16 rfl) rfl 0 rfl ?_
  refine g_aload_n hX (dc_X3_copyFrom 17 rfl) rfl 1 rfl ?_
  refine g_getI hX (dc_X3_copyFrom 18 rfl) fl_X3_54 (by decide) rfl (ha1 0 _ rfl) ?_
  refine g_putI (raw := false) hX (dc_X3_copyFrom 19 rfl) fl_X3_54 (by decide) ⟨rfl, rfl⟩ ⟨rfl, rfl⟩ (ha0 0 _ rfl) ?_
  refine g_aload_n hX (dc_X3_copyFrom 20 rfl) rfl 1 rfl ?_
  refine g_getF (q := (a1 + 1)) hX (dc_X3_copyFrom 21 rfl) fl_X3_9 (by decide) rfl (ha1 0 _ rfl) rfl ?_
  refine g_iconst (w := (0 : Int32)) hX (dc_X3_copyFrom 22 rfl) (by decide) ?_
  refine g_aload_n hX (dc_X3_copyFrom 23 rfl) rfl 0 rfl ?_
  refine g_getF (q := (a0 + 1)) hX (dc_X3_copyFrom 24 rfl) fl_X3_9 (by decide) rfl (ha0 0 _ rfl) rfl ?_
  refine g_iconst (w := (0 : Int32)) hX (dc_X3_copyFrom 25 rfl) (by decide) ?_
  refine g_iconst (w := (5 : Int32)) hX (dc_X3_copyFrom 26 rfl) (by decide) ?_
  refine g_copy hX (dc_X3_copyFrom 27 rfl) ma_X3_60 (ha1 1 _ rfl) (ha0 1 _ rfl) (by decide) (by decide) (by decide) (Nat.le_of_ble_eq_true rfl) ?_
  exact g_sub [0, 1] rfl (c_X3_copyFrom_54 hX hO hΩ a0 a1 (wW (wI (wI σ a0 3 (sI σ a1 3)) a0 4 (sI (wI σ a0 3 (sI σ a1 3)) a1 4)) (a0 + 1) (va_cpy (sI (wI (wI σ a0 3 (sI σ a1 3)) a0 4 (sI (wI σ a0 3 (sI σ a1 3)) a1 4)) (a1 + 1)) (sI (wI (wI σ a0 3 (sI σ a1 3)) a0 4 (sI (wI σ a0 3 (sI σ a1 3)) a1 4)) (a0 + 1)) (ix (0 : Int32)) (ix (0 : Int32)) (ix (5 : Int32)))) ha0 ha1)
def b_X3_copyFrom_0 (a0 : Nat) (a1 : Nat)    (σ : MS) : Option (MS) := chk ((sI σ a1 0) = 0 ∨ (sI σ a1 0) = 1) ((b_X3_copyFrom_24 a0 a1 (wI (wI (wI σ a0 0 (sI σ a1 0)) a0 1 (sI (wI σ a0 0 (sI σ a1 0)) a1 1)) a0 2 (sI (wI (wI σ a0 0 (sI σ a1 0)) a0 1 (sI (wI σ a0 0 (sI σ a1 0)) a1 1)) a1 2))))
set_option maxHeartbeats 4000000 in
set_option maxRecDepth 20000 in
theorem c_X3_copyFrom_0 {X : CX} {Ω : OM} (hX : CF X Ω RX3 cX3_copyFrom 2 none rm_X3_copyFrom) (hO : OKO Ω) (hΩ : oSH Ω = SHX) (a0 : Nat) (a1 : Nat)     (σ : MS) (ha0 : tRt Ω σ a0 shLand) (ha1 : tRt Ω σ a1 shLand) : GE X Ω 2 0 0 (emWV) 0 0 0 [(0, .ref a0), (1, .ref a1)] [] σ (b_X3_copyFrom_0 a0 a1 σ) := by
  unfold b_X3_copyFrom_0
  refine g_aload_n hX (dc_X3_copyFrom 0 rfl) rfl 0 rfl ?_
  refine g_aload_n hX (dc_X3_copyFrom 1 rfl) rfl 1 rfl ?_
  refine g_getI hX (dc_X3_copyFrom 2 rfl) fl_X3_40 (by decide) rfl (ha1 0 _ rfl) ?_
  refine g_chk (fun hc4 => ?_)
  refine g_putI (raw := false) hX (dc_X3_copyFrom 3 rfl) fl_X3_40 (by decide) ⟨rfl, rfl⟩ (nz_bool hc4) (ha0 0 _ rfl) ?_
  refine g_aload_n hX (dc_X3_copyFrom 4 rfl) rfl 0 rfl ?_
  refine g_aload_n hX (dc_X3_copyFrom 5 rfl) rfl 1 rfl ?_
  refine g_getI hX (dc_X3_copyFrom 6 rfl) fl_X3_44 (by decide) rfl (ha1 0 _ rfl) ?_
  refine g_putI (raw := false) hX (dc_X3_copyFrom 7 rfl) fl_X3_44 (by decide) ⟨rfl, rfl⟩ ⟨rfl, rfl⟩ (ha0 0 _ rfl) ?_
  refine g_aload_n hX (dc_X3_copyFrom 8 rfl) rfl 0 rfl ?_
  refine g_aload_n hX (dc_X3_copyFrom 9 rfl) rfl 1 rfl ?_
  refine g_getI hX (dc_X3_copyFrom 10 rfl) fl_X3_48 (by decide) rfl (ha1 0 _ rfl) ?_
  refine g_putI (raw := false) hX (dc_X3_copyFrom 11 rfl) fl_X3_48 (by decide) ⟨rfl, rfl⟩ ⟨rfl, rfl⟩ (ha0 0 _ rfl) ?_
  exact g_sub [0, 1] rfl (c_X3_copyFrom_24 hX hO hΩ a0 a1 (wI (wI (wI σ a0 0 (sI σ a1 0)) a0 1 (sI (wI σ a0 0 (sI σ a1 0)) a1 1)) a0 2 (sI (wI (wI σ a0 0 (sI σ a1 0)) a0 1 (sI (wI σ a0 0 (sI σ a1 0)) a1 1)) a1 2)) ha0 ha1)
def f_X3_copyFrom (a0 : Nat) (a1 : Nat) (σ : MS) : Option (MS) := b_X3_copyFrom_0 a0 a1  σ
theorem con_X3_copyFrom {Ω : OM} (hO : OKO Ω) (hΩ : oSH Ω = SHX) (a0 : Nat) (a1 : Nat) (σ : MS) (ha0 : tRt Ω σ a0 shLand) (ha1 : tRt Ω σ a1 shLand) : Con Ω yX3_copyFrom cX3_copyFrom 2 none rm_X3_copyFrom (emWV) [.ref a0, .ref a1] σ (f_X3_copyFrom a0 a1 σ) :=
  con_of hO (by decide +kernel) (Nat.le_of_ble_eq_true rfl) rfl (fun X hX _ => c_X3_copyFrom_0 hX hO hΩ a0 a1   σ ha0 ha1)
def it_X3_awakeAt : List (Nat × Instr × Nat × Nat) := [(0, .iconst 0, 1, 1), (1, .istore_n 2, 1, 2), (2, .iconst 0, 1, 3), (3, .istore_n 3, 1, 4), (4, .iload_n 3, 1, 5), (5, .aload_n 0, 1, 6), (6, .getfield 51, 3, 9), (9, .if_icmp .ge 24, 3, 12), (12, .aload_n 0, 1, 13), (13, .iload_n 3, 1, 14), (14, .iload_n 1, 1, 15), (15, .invokevirtual 79, 3, 18), (18, .ifCond .ne 9, 3, 21), (21, .iload_n 2, 1, 22), (22, .iconst 1, 1, 23), (23, .iload_n 3, 1, 24), (24, .ishl, 1, 25), (25, .ior, 1, 26), (26, .istore_n 2, 1, 27), (27, .iinc 3 1, 3, 30), (30, .goto (-26), 3, 33), (33, .iload_n 2, 1, 34), (34, .ireturn, 1, 35)]
theorem id_X3_awakeAt : ∀ q ∈ it_X3_awakeAt, decode cX3_awakeAt q.1 = .ok (q.2.1, q.2.2.1) ∧ q.1 + q.2.2.1 = q.2.2.2 := by decide +kernel
theorem dc_X3_awakeAt {pc : Nat} {i : Instr} {n pc' : Nat} (j : Nat) (h : it_X3_awakeAt[j]? = some (pc, i, n, pc')) : Dc cX3_awakeAt pc i n pc' := dc_of id_X3_awakeAt j h
abbrev rm_X3_awakeAt : Room := { frames := 2, cells := 0, slots := 0, locals := 44 }
def b_X3_awakeAt_27  (k4 : Int32 → Int32 → Int32 → MS → Option (Int32))  (y1 : Int32) (y2 : Int32) (y3 : Int32) (σ : MS) : Option (Int32) := (k4 (y1) (y2) ((y3 + (1 : Int32))) σ)
set_option maxHeartbeats 4000000 in
set_option maxRecDepth 20000 in
theorem c_X3_awakeAt_27 {X : CX} {Ω : OM} (hX : CF X Ω RX3 cX3_awakeAt 4 (some .int) rm_X3_awakeAt) (hO : OKO Ω) (hΩ : oSH Ω = SHX)   (σ : MS) (k4 : Int32 → Int32 → Int32 → MS → Option (Int32)) (hk4 : ∀ (y1 : Int32) (y2 : Int32) (y3 : Int32), GE X Ω 4 0 0 (emPI σ) 0 0 4 [(0, .ref 23), (1, .int y1), (2, .int y2), (3, .int y3)] [] σ (k4 y1 y2 y3 σ))  (y1 : Int32) (y2 : Int32) (y3 : Int32)   : GE X Ω 4 0 0 (emPI σ) 0 0 27 [(0, .ref 23), (1, .int y1), (2, .int y2), (3, .int y3)] [] σ (b_X3_awakeAt_27  k4 y1 y2 y3 σ) := by
  unfold b_X3_awakeAt_27
  refine g_iinc (w := (y3 + (1 : Int32))) (L' := [(3, .int (y3 + (1 : Int32))), (0, .ref 23), (1, .int y1), (2, .int y2)]) hX (dc_X3_awakeAt 19 rfl) 3 rfl rfl (by decide) rfl ?_
  refine g_goto (tgt := 4) hX (dc_X3_awakeAt 20 rfl) (by decide) ?_
  exact g_sub [1, 2, 3, 0] rfl (hk4 (y1) (y2) ((y3 + (1 : Int32))) )
def b_X3_awakeAt_4   : Nat → Int32 → Int32 → Int32 → MS → Option (Int32)
  | 0, _, _, _, _ => none
  | n + 1, y1, y2, y3, σ => (if (sI σ 23 3) ≤ y3 then some y2 else (f_X3_isAsleep y3 y1 σ).bind (fun r5 => (if r5 = 0 then (b_X3_awakeAt_27 (b_X3_awakeAt_4  n) (y1) ((y2 ||| ((1 : Int32) <<< (y3 &&& 31)))) (y3) σ) else (b_X3_awakeAt_27 (b_X3_awakeAt_4  n) (y1) (y2) (y3) σ))))
set_option maxHeartbeats 4000000 in
set_option maxRecDepth 20000 in
theorem c_X3_awakeAt_4 {X : CX} {Ω : OM} (hX : CF X Ω RX3 cX3_awakeAt 4 (some .int) rm_X3_awakeAt) (hO : OKO Ω) (hΩ : oSH Ω = SHX)   (σ : MS)  : ∀ (n : Nat) (y1 : Int32) (y2 : Int32) (y3 : Int32)  , GE X Ω 4 0 0 (emPI σ) 0 0 4 [(0, .ref 23), (1, .int y1), (2, .int y2), (3, .int y3)] [] σ (b_X3_awakeAt_4  n y1 y2 y3 σ)
  | 0, _, _, _ => g_none
  | n + 1, y1, y2, y3 => by
    have hk4 := c_X3_awakeAt_4 hX hO hΩ  σ n
    unfold b_X3_awakeAt_4
    refine g_iload_n hX (dc_X3_awakeAt 4 rfl) rfl 3 rfl ?_
    refine g_aload_n hX (dc_X3_awakeAt 5 rfl) rfl 0 rfl ?_
    refine g_getI hX (dc_X3_awakeAt 6 rfl) fl_X3_51 (by decide) rfl (stS hΩ 23 rfl) ?_
    refine g_icmp_ge (tgt := 33) hX (dc_X3_awakeAt 7 rfl) (by decide) (fun h4 => ?_) (fun h4 => ?_)
    · refine g_iload_n hX (dc_X3_awakeAt 21 rfl) rfl 2 rfl ?_
      exact g_iret hX (dc_X3_awakeAt 22 rfl) rfl rfl (Nat.le_refl _) (Nat.le_refl _)
    · refine g_aload_n hX (dc_X3_awakeAt 8 rfl) rfl 0 rfl ?_
      refine g_iload_n hX (dc_X3_awakeAt 9 rfl) rfl 3 rfl ?_
      refine g_iload_n hX (dc_X3_awakeAt 10 rfl) rfl 1 rfl ?_
      refine gV_PI (As := [.int y3, .int y1]) (st := []) hX (dc_X3_awakeAt 11 rfl) ml_X3_79 (con_X3_isAsleep hO hΩ y3 y1 σ) (stS hΩ 23 rfl) rfl rfl ⟨by decide, by decide⟩ ⟨rfl, rfl⟩ ⟨Nat.zero_le _, Nat.zero_le _⟩ (Nat.le_of_ble_eq_true rfl) (fun r5 _ => ?_)
      refine g_if_ne (tgt := 27) hX (dc_X3_awakeAt 12 rfl) (by decide) (fun h6 => ?_) (fun h6 => ?_)
      · refine g_iload_n hX (dc_X3_awakeAt 13 rfl) rfl 2 rfl ?_
        refine g_iconst (w := (1 : Int32)) hX (dc_X3_awakeAt 14 rfl) (by decide) ?_
        refine g_iload_n hX (dc_X3_awakeAt 15 rfl) rfl 3 rfl ?_
        refine g_ishl hX (dc_X3_awakeAt 16 rfl) ?_
        refine g_ior hX (dc_X3_awakeAt 17 rfl) ?_
        refine g_istore_n (L' := [(2, .int (y2 ||| ((1 : Int32) <<< (y3 &&& 31)))), (0, .ref 23), (1, .int y1), (3, .int y3)]) hX (dc_X3_awakeAt 18 rfl) rfl (by decide) rfl ?_
        exact g_sub [1, 2, 0, 3] rfl (c_X3_awakeAt_27 hX hO hΩ σ _ hk4 (y1) ((y2 ||| ((1 : Int32) <<< (y3 &&& 31)))) (y3))
      · exact g_sub [0, 1, 2, 3] rfl (c_X3_awakeAt_27 hX hO hΩ σ _ hk4 (y1) (y2) (y3))
def b_X3_awakeAt_0   (x1 : Int32)  (σ : MS) : Option (Int32) := (b_X3_awakeAt_4 FU (x1) ((0 : Int32)) ((0 : Int32)) σ)
set_option maxHeartbeats 4000000 in
set_option maxRecDepth 20000 in
theorem c_X3_awakeAt_0 {X : CX} {Ω : OM} (hX : CF X Ω RX3 cX3_awakeAt 4 (some .int) rm_X3_awakeAt) (hO : OKO Ω) (hΩ : oSH Ω = SHX)   (σ : MS)  (x1 : Int32)    : GE X Ω 4 0 0 (emPI σ) 0 0 0 [(0, .ref 23), (1, .int x1)] [] σ (b_X3_awakeAt_0  x1 σ) := by
  unfold b_X3_awakeAt_0
  refine g_iconst (w := (0 : Int32)) hX (dc_X3_awakeAt 0 rfl) (by decide) ?_
  refine g_istore_n (L' := [(2, .int (0 : Int32)), (0, .ref 23), (1, .int x1)]) hX (dc_X3_awakeAt 1 rfl) rfl (by decide) rfl ?_
  refine g_iconst (w := (0 : Int32)) hX (dc_X3_awakeAt 2 rfl) (by decide) ?_
  refine g_istore_n (L' := [(3, .int (0 : Int32)), (2, .int (0 : Int32)), (0, .ref 23), (1, .int x1)]) hX (dc_X3_awakeAt 3 rfl) rfl (by decide) rfl ?_
  exact g_sub [2, 3, 1, 0] rfl (c_X3_awakeAt_4 hX hO hΩ σ FU (x1) ((0 : Int32)) ((0 : Int32)))
def f_X3_awakeAt (x1 : Int32) (σ : MS) : Option (Int32) := b_X3_awakeAt_0  x1 σ
theorem con_X3_awakeAt {Ω : OM} (hO : OKO Ω) (hΩ : oSH Ω = SHX) (x1 : Int32) (σ : MS)  : Con Ω yX3_awakeAt cX3_awakeAt 4 (some .int) rm_X3_awakeAt (emPI σ) [.ref 23, .int x1] σ (f_X3_awakeAt x1 σ) :=
  con_of hO (by decide +kernel) (Nat.le_of_ble_eq_true rfl) rfl (fun X hX _ => c_X3_awakeAt_0 hX hO hΩ   σ x1)
def it_X3_handsAwakeAt : List (Nat × Instr × Nat × Nat) := [(0, .iconst 0, 1, 1), (1, .istore_n 2, 1, 2), (2, .iconst 0, 1, 3), (3, .istore_n 3, 1, 4), (4, .iload_n 3, 1, 5), (5, .aload_n 0, 1, 6), (6, .getfield 51, 3, 9), (9, .if_icmp .ge 27, 3, 12), (12, .aload_n 0, 1, 13), (13, .iload_n 3, 1, 14), (14, .iload_n 1, 1, 15), (15, .invokevirtual 79, 3, 18), (18, .ifCond .ne 12, 3, 21), (21, .iload_n 2, 1, 22), (22, .aload_n 0, 1, 23), (23, .getfield 24, 3, 26), (26, .iload_n 3, 1, 27), (27, .iaload, 1, 28), (28, .iadd, 1, 29), (29, .istore_n 2, 1, 30), (30, .iinc 3 1, 3, 33), (33, .goto (-29), 3, 36), (36, .iload_n 2, 1, 37), (37, .ireturn, 1, 38)]
theorem id_X3_handsAwakeAt : ∀ q ∈ it_X3_handsAwakeAt, decode cX3_handsAwakeAt q.1 = .ok (q.2.1, q.2.2.1) ∧ q.1 + q.2.2.1 = q.2.2.2 := by decide +kernel
theorem dc_X3_handsAwakeAt {pc : Nat} {i : Instr} {n pc' : Nat} (j : Nat) (h : it_X3_handsAwakeAt[j]? = some (pc, i, n, pc')) : Dc cX3_handsAwakeAt pc i n pc' := dc_of id_X3_handsAwakeAt j h
abbrev rm_X3_handsAwakeAt : Room := { frames := 2, cells := 0, slots := 0, locals := 44 }
def b_X3_handsAwakeAt_30  (k4 : Int32 → Int32 → Int32 → MS → Option (Int32))  (y1 : Int32) (y2 : Int32) (y3 : Int32) (σ : MS) : Option (Int32) := (k4 (y1) (y2) ((y3 + (1 : Int32))) σ)
set_option maxHeartbeats 4000000 in
set_option maxRecDepth 20000 in
theorem c_X3_handsAwakeAt_30 {X : CX} {Ω : OM} (hX : CF X Ω RX3 cX3_handsAwakeAt 4 (some .int) rm_X3_handsAwakeAt) (hO : OKO Ω) (hΩ : oSH Ω = SHX)   (σ : MS) (k4 : Int32 → Int32 → Int32 → MS → Option (Int32)) (hk4 : ∀ (y1 : Int32) (y2 : Int32) (y3 : Int32), GE X Ω 4 0 0 (emPI σ) 0 0 4 [(0, .ref 23), (1, .int y1), (2, .int y2), (3, .int y3)] [] σ (k4 y1 y2 y3 σ))  (y1 : Int32) (y2 : Int32) (y3 : Int32)   : GE X Ω 4 0 0 (emPI σ) 0 0 30 [(0, .ref 23), (1, .int y1), (2, .int y2), (3, .int y3)] [] σ (b_X3_handsAwakeAt_30  k4 y1 y2 y3 σ) := by
  unfold b_X3_handsAwakeAt_30
  refine g_iinc (w := (y3 + (1 : Int32))) (L' := [(3, .int (y3 + (1 : Int32))), (0, .ref 23), (1, .int y1), (2, .int y2)]) hX (dc_X3_handsAwakeAt 20 rfl) 3 rfl rfl (by decide) rfl ?_
  refine g_goto (tgt := 4) hX (dc_X3_handsAwakeAt 21 rfl) (by decide) ?_
  exact g_sub [1, 2, 3, 0] rfl (hk4 (y1) (y2) ((y3 + (1 : Int32))) )
def b_X3_handsAwakeAt_4   : Nat → Int32 → Int32 → Int32 → MS → Option (Int32)
  | 0, _, _, _, _ => none
  | n + 1, y1, y2, y3, σ => (if (sI σ 23 3) ≤ y3 then some y2 else (f_X3_isAsleep y3 y1 σ).bind (fun r6 => (if r6 = 0 then chk (inb y3 4) ((b_X3_handsAwakeAt_30 (b_X3_handsAwakeAt_4  n) (y1) ((y2 + (sI σ 28 (ix y3)))) (y3) σ)) else (b_X3_handsAwakeAt_30 (b_X3_handsAwakeAt_4  n) (y1) (y2) (y3) σ))))
set_option maxHeartbeats 4000000 in
set_option maxRecDepth 20000 in
theorem c_X3_handsAwakeAt_4 {X : CX} {Ω : OM} (hX : CF X Ω RX3 cX3_handsAwakeAt 4 (some .int) rm_X3_handsAwakeAt) (hO : OKO Ω) (hΩ : oSH Ω = SHX)   (σ : MS)  : ∀ (n : Nat) (y1 : Int32) (y2 : Int32) (y3 : Int32)  , GE X Ω 4 0 0 (emPI σ) 0 0 4 [(0, .ref 23), (1, .int y1), (2, .int y2), (3, .int y3)] [] σ (b_X3_handsAwakeAt_4  n y1 y2 y3 σ)
  | 0, _, _, _ => g_none
  | n + 1, y1, y2, y3 => by
    have hk4 := c_X3_handsAwakeAt_4 hX hO hΩ  σ n
    unfold b_X3_handsAwakeAt_4
    refine g_iload_n hX (dc_X3_handsAwakeAt 4 rfl) rfl 3 rfl ?_
    refine g_aload_n hX (dc_X3_handsAwakeAt 5 rfl) rfl 0 rfl ?_
    refine g_getI hX (dc_X3_handsAwakeAt 6 rfl) fl_X3_51 (by decide) rfl (stS hΩ 23 rfl) ?_
    refine g_icmp_ge (tgt := 36) hX (dc_X3_handsAwakeAt 7 rfl) (by decide) (fun h5 => ?_) (fun h5 => ?_)
    · refine g_iload_n hX (dc_X3_handsAwakeAt 22 rfl) rfl 2 rfl ?_
      exact g_iret hX (dc_X3_handsAwakeAt 23 rfl) rfl rfl (Nat.le_refl _) (Nat.le_refl _)
    · refine g_aload_n hX (dc_X3_handsAwakeAt 8 rfl) rfl 0 rfl ?_
      refine g_iload_n hX (dc_X3_handsAwakeAt 9 rfl) rfl 3 rfl ?_
      refine g_iload_n hX (dc_X3_handsAwakeAt 10 rfl) rfl 1 rfl ?_
      refine gV_PI (As := [.int y3, .int y1]) (st := []) hX (dc_X3_handsAwakeAt 11 rfl) ml_X3_79 (con_X3_isAsleep hO hΩ y3 y1 σ) (stS hΩ 23 rfl) rfl rfl ⟨by decide, by decide⟩ ⟨rfl, rfl⟩ ⟨Nat.zero_le _, Nat.zero_le _⟩ (Nat.le_of_ble_eq_true rfl) (fun r6 _ => ?_)
      refine g_if_ne (tgt := 30) hX (dc_X3_handsAwakeAt 12 rfl) (by decide) (fun h7 => ?_) (fun h7 => ?_)
      · refine g_iload_n hX (dc_X3_handsAwakeAt 13 rfl) rfl 2 rfl ?_
        refine g_aload_n hX (dc_X3_handsAwakeAt 14 rfl) rfl 0 rfl ?_
        refine g_getF (q := 28) hX (dc_X3_handsAwakeAt 15 rfl) fl_X3_24 (by decide) rfl (stS hΩ 23 rfl) rfl ?_
        refine g_iload_n hX (dc_X3_handsAwakeAt 16 rfl) rfl 3 rfl ?_
        refine g_chk (fun hc8 => ?_)
        refine g_iald hX (dc_X3_handsAwakeAt 17 rfl) (stS hΩ 28 rfl) hc8 rfl ?_
        refine g_iadd hX (dc_X3_handsAwakeAt 18 rfl) ?_
        refine g_istore_n (L' := [(2, .int (y2 + (sI σ 28 (ix y3)))), (0, .ref 23), (1, .int y1), (3, .int y3)]) hX (dc_X3_handsAwakeAt 19 rfl) rfl (by decide) rfl ?_
        exact g_sub [1, 2, 0, 3] rfl (c_X3_handsAwakeAt_30 hX hO hΩ σ _ hk4 (y1) ((y2 + (sI σ 28 (ix y3)))) (y3))
      · exact g_sub [0, 1, 2, 3] rfl (c_X3_handsAwakeAt_30 hX hO hΩ σ _ hk4 (y1) (y2) (y3))
def b_X3_handsAwakeAt_0   (x1 : Int32)  (σ : MS) : Option (Int32) := (b_X3_handsAwakeAt_4 FU (x1) ((0 : Int32)) ((0 : Int32)) σ)
set_option maxHeartbeats 4000000 in
set_option maxRecDepth 20000 in
theorem c_X3_handsAwakeAt_0 {X : CX} {Ω : OM} (hX : CF X Ω RX3 cX3_handsAwakeAt 4 (some .int) rm_X3_handsAwakeAt) (hO : OKO Ω) (hΩ : oSH Ω = SHX)   (σ : MS)  (x1 : Int32)    : GE X Ω 4 0 0 (emPI σ) 0 0 0 [(0, .ref 23), (1, .int x1)] [] σ (b_X3_handsAwakeAt_0  x1 σ) := by
  unfold b_X3_handsAwakeAt_0
  refine g_iconst (w := (0 : Int32)) hX (dc_X3_handsAwakeAt 0 rfl) (by decide) ?_
  refine g_istore_n (L' := [(2, .int (0 : Int32)), (0, .ref 23), (1, .int x1)]) hX (dc_X3_handsAwakeAt 1 rfl) rfl (by decide) rfl ?_
  refine g_iconst (w := (0 : Int32)) hX (dc_X3_handsAwakeAt 2 rfl) (by decide) ?_
  refine g_istore_n (L' := [(3, .int (0 : Int32)), (2, .int (0 : Int32)), (0, .ref 23), (1, .int x1)]) hX (dc_X3_handsAwakeAt 3 rfl) rfl (by decide) rfl ?_
  exact g_sub [2, 3, 1, 0] rfl (c_X3_handsAwakeAt_4 hX hO hΩ σ FU (x1) ((0 : Int32)) ((0 : Int32)))
def f_X3_handsAwakeAt (x1 : Int32) (σ : MS) : Option (Int32) := b_X3_handsAwakeAt_0  x1 σ
theorem con_X3_handsAwakeAt {Ω : OM} (hO : OKO Ω) (hΩ : oSH Ω = SHX) (x1 : Int32) (σ : MS)  : Con Ω yX3_handsAwakeAt cX3_handsAwakeAt 4 (some .int) rm_X3_handsAwakeAt (emPI σ) [.ref 23, .int x1] σ (f_X3_handsAwakeAt x1 σ) :=
  con_of hO (by decide +kernel) (Nat.le_of_ble_eq_true rfl) rfl (fun X hX _ => c_X3_handsAwakeAt_0 hX hO hΩ   σ x1)
def it_X5_handingsBy : List (Nat × Instr × Nat × Nat) := [(0, .aload_n 0, 1, 1), (1, .getfield 9, 3, 4), (4, .iload_n 1, 1, 5), (5, .iconst 4, 1, 6), (6, .imul, 1, 7), (7, .iload_n 3, 1, 8), (8, .iadd, 1, 9), (9, .iaload, 1, 10), (10, .iload_n 3, 1, 11), (11, .iload_n 2, 1, 12), (12, .if_icmp .ne 7, 3, 15), (15, .iconst 0, 1, 16), (16, .goto 4, 3, 19), (19, .iconst 1, 1, 20), (20, .iadd, 1, 21), (21, .ireturn, 1, 22)]
theorem id_X5_handingsBy : ∀ q ∈ it_X5_handingsBy, decode cX5_handingsBy q.1 = .ok (q.2.1, q.2.2.1) ∧ q.1 + q.2.2.1 = q.2.2.2 := by decide +kernel
theorem dc_X5_handingsBy {pc : Nat} {i : Instr} {n pc' : Nat} (j : Nat) (h : it_X5_handingsBy[j]? = some (pc, i, n, pc')) : Dc cX5_handingsBy pc i n pc' := dc_of id_X5_handingsBy j h
abbrev rm_X5_handingsBy : Room := { frames := 0, cells := 0, slots := 0, locals := 0 }
def b_X5_handingsBy_20    (s0 : Int32) (s1 : Int32) (σ : MS) : Option (Int32) := some (s1 + s0)
set_option maxHeartbeats 4000000 in
set_option maxRecDepth 20000 in
theorem c_X5_handingsBy_20 {X : CX} {Ω : OM} (hX : CF X Ω RX5 cX5_handingsBy 4 (some .int) rm_X5_handingsBy) (hO : OKO Ω) (hΩ : oSH Ω = SHX)   (σ : MS)   (s0 : Int32) (s1 : Int32)   : GE X Ω 4 0 0 (emPI σ) 0 0 20 [] [.int s0, .int s1] σ (b_X5_handingsBy_20  s0 s1 σ) := by
  unfold b_X5_handingsBy_20
  refine g_iadd hX (dc_X5_handingsBy 14 rfl) ?_
  exact g_iret hX (dc_X5_handingsBy 15 rfl) rfl rfl (Nat.le_refl _) (Nat.le_refl _)
def b_X5_handingsBy_0   (x1 : Int32) (x2 : Int32) (x3 : Int32)  (σ : MS) : Option (Int32) := chk (inb ((x1 * (4 : Int32)) + x3) 192) ((if x3 = x2 then (b_X5_handingsBy_20 ((0 : Int32)) ((sI σ 51 (ix ((x1 * (4 : Int32)) + x3)))) σ) else (b_X5_handingsBy_20 ((1 : Int32)) ((sI σ 51 (ix ((x1 * (4 : Int32)) + x3)))) σ)))
set_option maxHeartbeats 4000000 in
set_option maxRecDepth 20000 in
theorem c_X5_handingsBy_0 {X : CX} {Ω : OM} (hX : CF X Ω RX5 cX5_handingsBy 4 (some .int) rm_X5_handingsBy) (hO : OKO Ω) (hΩ : oSH Ω = SHX)   (σ : MS)  (x1 : Int32) (x2 : Int32) (x3 : Int32)    : GE X Ω 4 0 0 (emPI σ) 0 0 0 [(0, .ref 50), (1, .int x1), (2, .int x2), (3, .int x3)] [] σ (b_X5_handingsBy_0  x1 x2 x3 σ) := by
  unfold b_X5_handingsBy_0
  refine g_aload_n hX (dc_X5_handingsBy 0 rfl) rfl 0 rfl ?_
  refine g_getF (q := 51) hX (dc_X5_handingsBy 1 rfl) fl_X5_9 (by decide) rfl (stS hΩ 50 rfl) rfl ?_
  refine g_iload_n hX (dc_X5_handingsBy 2 rfl) rfl 1 rfl ?_
  refine g_iconst (w := (4 : Int32)) hX (dc_X5_handingsBy 3 rfl) (by decide) ?_
  refine g_imul hX (dc_X5_handingsBy 4 rfl) ?_
  refine g_iload_n hX (dc_X5_handingsBy 5 rfl) rfl 3 rfl ?_
  refine g_iadd hX (dc_X5_handingsBy 6 rfl) ?_
  refine g_chk (fun hc3 => ?_)
  refine g_iald hX (dc_X5_handingsBy 7 rfl) (stS hΩ 51 rfl) hc3 rfl ?_
  refine g_iload_n hX (dc_X5_handingsBy 8 rfl) rfl 3 rfl ?_
  refine g_iload_n hX (dc_X5_handingsBy 9 rfl) rfl 2 rfl ?_
  refine g_icmp_ne (tgt := 19) hX (dc_X5_handingsBy 10 rfl) (by decide) (fun h4 => ?_) (fun h4 => ?_)
  · refine g_iconst (w := (0 : Int32)) hX (dc_X5_handingsBy 11 rfl) (by decide) ?_
    refine g_goto (tgt := 20) hX (dc_X5_handingsBy 12 rfl) (by decide) ?_
    exact g_sub [] rfl (c_X5_handingsBy_20 hX hO hΩ σ ((0 : Int32)) ((sI σ 51 (ix ((x1 * (4 : Int32)) + x3)))))
  · refine g_iconst (w := (1 : Int32)) hX (dc_X5_handingsBy 13 rfl) (by decide) ?_
    exact g_sub [] rfl (c_X5_handingsBy_20 hX hO hΩ σ ((1 : Int32)) ((sI σ 51 (ix ((x1 * (4 : Int32)) + x3)))))
def f_X5_handingsBy (x1 : Int32) (x2 : Int32) (x3 : Int32) (σ : MS) : Option (Int32) := b_X5_handingsBy_0  x1 x2 x3 σ
theorem con_X5_handingsBy {Ω : OM} (hO : OKO Ω) (hΩ : oSH Ω = SHX) (x1 : Int32) (x2 : Int32) (x3 : Int32) (σ : MS)  : Con Ω yX5_handingsBy cX5_handingsBy 4 (some .int) rm_X5_handingsBy (emPI σ) [.ref 50, .int x1, .int x2, .int x3] σ (f_X5_handingsBy x1 x2 x3 σ) :=
  con_of hO (by decide +kernel) (Nat.le_of_ble_eq_true rfl) rfl (fun X hX _ => c_X5_handingsBy_0 hX hO hΩ   σ x1 x2 x3)
def it_X5_fewestFrom : List (Nat × Instr × Nat × Nat) := [(0, .sipush 1000, 3, 3), (3, .istore_n 3, 1, 4), (4, .iconst 0, 1, 5), (5, .istore 4, 2, 7), (7, .iload 4, 2, 9), (9, .aload_n 0, 1, 10), (10, .getfield 21, 3, 13), (13, .if_icmp .ge 22, 3, 16), (16, .iload_n 3, 1, 17), (17, .aload_n 0, 1, 18), (18, .iload_n 1, 1, 19), (19, .iload_n 2, 1, 20), (20, .iload 4, 2, 22), (22, .invokevirtual 30, 3, 25), (25, .invokestatic 34, 3, 28), (28, .istore_n 3, 1, 29), (29, .iinc 4 1, 3, 32), (32, .goto (-25), 3, 35), (35, .iload_n 3, 1, 36), (36, .ireturn, 1, 37)]
theorem id_X5_fewestFrom : ∀ q ∈ it_X5_fewestFrom, decode cX5_fewestFrom q.1 = .ok (q.2.1, q.2.2.1) ∧ q.1 + q.2.2.1 = q.2.2.2 := by decide +kernel
theorem dc_X5_fewestFrom {pc : Nat} {i : Instr} {n pc' : Nat} (j : Nat) (h : it_X5_fewestFrom[j]? = some (pc, i, n, pc')) : Dc cX5_fewestFrom pc i n pc' := dc_of id_X5_fewestFrom j h
abbrev rm_X5_fewestFrom : Room := { frames := 1, cells := 0, slots := 0, locals := 23 }
def b_X5_fewestFrom_7   : Nat → Int32 → Int32 → Int32 → Int32 → MS → Option (Int32)
  | 0, _, _, _, _, _ => none
  | n + 1, y1, y2, y3, y4, σ => (if (sI σ 50 1) ≤ y4 then some y3 else (f_X5_handingsBy y1 y2 y4 σ).bind (fun r5 => (f_J9_min_7cf53 y3 r5).bind (fun r6 => ((b_X5_fewestFrom_7  n) (y1) (y2) (r6) ((y4 + (1 : Int32))) σ))))
set_option maxHeartbeats 4000000 in
set_option maxRecDepth 20000 in
theorem c_X5_fewestFrom_7 {X : CX} {Ω : OM} (hX : CF X Ω RX5 cX5_fewestFrom 5 (some .int) rm_X5_fewestFrom) (hO : OKO Ω) (hΩ : oSH Ω = SHX)   (σ : MS)  : ∀ (n : Nat) (y1 : Int32) (y2 : Int32) (y3 : Int32) (y4 : Int32)  , GE X Ω 5 0 0 (emPI σ) 0 0 7 [(0, .ref 50), (1, .int y1), (2, .int y2), (3, .int y3), (4, .int y4)] [] σ (b_X5_fewestFrom_7  n y1 y2 y3 y4 σ)
  | 0, _, _, _, _ => g_none
  | n + 1, y1, y2, y3, y4 => by
    have hk7 := c_X5_fewestFrom_7 hX hO hΩ  σ n
    unfold b_X5_fewestFrom_7
    refine g_iload hX (dc_X5_fewestFrom 4 rfl) 4 rfl ?_
    refine g_aload_n hX (dc_X5_fewestFrom 5 rfl) rfl 0 rfl ?_
    refine g_getI hX (dc_X5_fewestFrom 6 rfl) fl_X5_21 (by decide) rfl (stS hΩ 50 rfl) ?_
    refine g_icmp_ge (tgt := 35) hX (dc_X5_fewestFrom 7 rfl) (by decide) (fun h4 => ?_) (fun h4 => ?_)
    · refine g_iload_n hX (dc_X5_fewestFrom 18 rfl) rfl 3 rfl ?_
      exact g_iret hX (dc_X5_fewestFrom 19 rfl) rfl rfl (Nat.le_refl _) (Nat.le_refl _)
    · refine g_iload_n hX (dc_X5_fewestFrom 8 rfl) rfl 3 rfl ?_
      refine g_aload_n hX (dc_X5_fewestFrom 9 rfl) rfl 0 rfl ?_
      refine g_iload_n hX (dc_X5_fewestFrom 10 rfl) rfl 1 rfl ?_
      refine g_iload_n hX (dc_X5_fewestFrom 11 rfl) rfl 2 rfl ?_
      refine g_iload hX (dc_X5_fewestFrom 12 rfl) 4 rfl ?_
      refine gV_PI (As := [.int y1, .int y2, .int y4]) (st := [.int y3]) hX (dc_X5_fewestFrom 13 rfl) ml_X5_30 (con_X5_handingsBy hO hΩ y1 y2 y4 σ) (stS hΩ 50 rfl) rfl rfl ⟨by decide, by decide⟩ ⟨rfl, rfl⟩ ⟨Nat.zero_le _, Nat.zero_le _⟩ (Nat.le_of_ble_eq_true rfl) (fun r5 _ => ?_)
      refine gS_PI (As := [.int y3, .int r5]) (st := []) hX (dc_X5_fewestFrom 14 rfl) ml_X5_34 (con_J9_min_7cf53 hO hΩ y3 r5 σ) rfl rfl ⟨by decide, by decide⟩ ⟨rfl, rfl⟩ ⟨Nat.zero_le _, Nat.zero_le _⟩ (Nat.le_of_ble_eq_true rfl) (fun r6 _ => ?_)
      refine g_istore_n (L' := [(3, .int r6), (0, .ref 50), (1, .int y1), (2, .int y2), (4, .int y4)]) hX (dc_X5_fewestFrom 15 rfl) rfl (by decide) rfl ?_
      refine g_iinc (w := (y4 + (1 : Int32))) (L' := [(4, .int (y4 + (1 : Int32))), (3, .int r6), (0, .ref 50), (1, .int y1), (2, .int y2)]) hX (dc_X5_fewestFrom 16 rfl) 4 rfl rfl (by decide) rfl ?_
      refine g_goto (tgt := 7) hX (dc_X5_fewestFrom 17 rfl) (by decide) ?_
      exact g_sub [2, 3, 4, 1, 0] rfl (hk7 (y1) (y2) (r6) ((y4 + (1 : Int32))) )
def b_X5_fewestFrom_0   (x1 : Int32) (x2 : Int32)  (σ : MS) : Option (Int32) := (b_X5_fewestFrom_7 FU (x1) (x2) ((1000 : Int32)) ((0 : Int32)) σ)
set_option maxHeartbeats 4000000 in
set_option maxRecDepth 20000 in
theorem c_X5_fewestFrom_0 {X : CX} {Ω : OM} (hX : CF X Ω RX5 cX5_fewestFrom 5 (some .int) rm_X5_fewestFrom) (hO : OKO Ω) (hΩ : oSH Ω = SHX)   (σ : MS)  (x1 : Int32) (x2 : Int32)    : GE X Ω 5 0 0 (emPI σ) 0 0 0 [(0, .ref 50), (1, .int x1), (2, .int x2)] [] σ (b_X5_fewestFrom_0  x1 x2 σ) := by
  unfold b_X5_fewestFrom_0
  refine g_sipush (w := (1000 : Int32)) hX (dc_X5_fewestFrom 0 rfl) (by decide) ?_
  refine g_istore_n (L' := [(3, .int (1000 : Int32)), (0, .ref 50), (1, .int x1), (2, .int x2)]) hX (dc_X5_fewestFrom 1 rfl) rfl (by decide) rfl ?_
  refine g_iconst (w := (0 : Int32)) hX (dc_X5_fewestFrom 2 rfl) (by decide) ?_
  refine g_istore (L' := [(4, .int (0 : Int32)), (3, .int (1000 : Int32)), (0, .ref 50), (1, .int x1), (2, .int x2)]) hX (dc_X5_fewestFrom 3 rfl) (by decide) rfl ?_
  exact g_sub [2, 3, 4, 1, 0] rfl (c_X5_fewestFrom_7 hX hO hΩ σ FU (x1) (x2) ((1000 : Int32)) ((0 : Int32)))
def f_X5_fewestFrom (x1 : Int32) (x2 : Int32) (σ : MS) : Option (Int32) := b_X5_fewestFrom_0  x1 x2 σ
theorem con_X5_fewestFrom {Ω : OM} (hO : OKO Ω) (hΩ : oSH Ω = SHX) (x1 : Int32) (x2 : Int32) (σ : MS)  : Con Ω yX5_fewestFrom cX5_fewestFrom 5 (some .int) rm_X5_fewestFrom (emPI σ) [.ref 50, .int x1, .int x2] σ (f_X5_fewestFrom x1 x2 σ) :=
  con_of hO (by decide +kernel) (Nat.le_of_ble_eq_true rfl) rfl (fun X hX _ => c_X5_fewestFrom_0 hX hO hΩ   σ x1 x2)
def it_X5_weigh : List (Nat × Instr × Nat × Nat) := [(0, .aload_n 0, 1, 1), (1, .aload_n 1, 1, 2), (2, .getfield 15, 3, 5), (5, .putfield 21, 3, 8), (8, .iload_n 3, 1, 9), (9, .iconst 1, 1, 10), (10, .isub, 1, 11), (11, .istore 4, 2, 13), (13, .iload 4, 2, 15), (15, .ifCond .lt 84, 3, 18), (18, .iconst 0, 1, 19), (19, .istore 5, 2, 21), (21, .iload 5, 2, 23), (23, .aload_n 0, 1, 24), (24, .getfield 21, 3, 27), (27, .if_icmp .ge 66, 3, 30), (30, .iload 4, 2, 32), (32, .iload_n 3, 1, 33), (33, .iconst 1, 1, 34), (34, .isub, 1, 35), (35, .if_icmp .ne 7, 3, 38), (38, .iconst 0, 1, 39), (39, .goto 13, 3, 42), (42, .aload_n 0, 1, 43), (43, .iload 4, 2, 45), (45, .iconst 1, 1, 46), (46, .iadd, 1, 47), (47, .iload 5, 2, 49), (49, .invokevirtual 22, 3, 52), (52, .istore 6, 2, 54), (54, .aload_n 0, 1, 55), (55, .getfield 9, 3, 58), (58, .iload 4, 2, 60), (60, .iconst 4, 1, 61), (61, .imul, 1, 62), (62, .iload 5, 2, 64), (64, .iadd, 1, 65), (65, .aload_n 1, 1, 66), (66, .iload 5, 2, 68), (68, .iload_n 2, 1, 69), (69, .iload 4, 2, 71), (71, .iadd, 1, 72), (72, .invokevirtual 26, 3, 75), (75, .ifCond .eq 9, 3, 78), (78, .sipush 1000, 3, 81), (81, .goto 5, 3, 84), (84, .iload 6, 2, 86), (86, .iastore, 1, 87), (87, .iinc 5 1, 3, 90), (90, .goto (-69), 3, 93), (93, .iinc 4 (-1), 3, 96), (96, .goto (-83), 3, 99), (99, .return_, 1, 100)]
theorem id_X5_weigh : ∀ q ∈ it_X5_weigh, decode cX5_weigh q.1 = .ok (q.2.1, q.2.2.1) ∧ q.1 + q.2.2.1 = q.2.2.2 := by decide +kernel
theorem dc_X5_weigh {pc : Nat} {i : Instr} {n pc' : Nat} (j : Nat) (h : it_X5_weigh[j]? = some (pc, i, n, pc')) : Dc cX5_weigh pc i n pc' := dc_of id_X5_weigh j h
abbrev rm_X5_weigh : Room := { frames := 2, cells := 0, slots := 0, locals := 47 }
def b_X5_weigh_86  (k13 : Int32 → Int32 → Int32 → MS → Option (MS)) (k21 : Int32 → Int32 → Int32 → Int32 → MS → Option (MS))  (y2 : Int32) (y3 : Int32) (y4 : Int32) (y5 : Int32) (s0 : Int32) (s1 : Int32) (σ : MS) : Option (MS) := chk (inb s1 192) ((k21 (y2) (y3) (y4) ((y5 + (1 : Int32))) (wI σ 51 (ix s1) s0)))
set_option maxHeartbeats 4000000 in
set_option maxRecDepth 20000 in
theorem c_X5_weigh_86 {X : CX} {Ω : OM} (hX : CF X Ω RX5 cX5_weigh 7 none rm_X5_weigh) (hO : OKO Ω) (hΩ : oSH Ω = SHX)   (k13 : Int32 → Int32 → Int32 → MS → Option (MS)) (hk13 : ∀ (y2 : Int32) (y3 : Int32) (y4 : Int32) (σ : MS) , GE X Ω 7 0 0 (emWV) 0 0 13 [(0, .ref 50), (1, .ref 23), (2, .int y2), (3, .int y3), (4, .int y4)] [] σ (k13 y2 y3 y4 σ)) (k21 : Int32 → Int32 → Int32 → Int32 → MS → Option (MS)) (hk21 : ∀ (y2 : Int32) (y3 : Int32) (y4 : Int32) (y5 : Int32) (σ : MS) , GE X Ω 7 0 0 (emWV) 0 0 21 [(0, .ref 50), (1, .ref 23), (2, .int y2), (3, .int y3), (4, .int y4), (5, .int y5)] [] σ (k21 y2 y3 y4 y5 σ))  (y2 : Int32) (y3 : Int32) (y4 : Int32) (y5 : Int32) (s0 : Int32) (s1 : Int32) (σ : MS)  : GE X Ω 7 0 0 (emWV) 0 0 86 [(0, .ref 50), (1, .ref 23), (2, .int y2), (3, .int y3), (4, .int y4), (5, .int y5)] [.int s0, .int s1, .ref 51] σ (b_X5_weigh_86  k13 k21 y2 y3 y4 y5 s0 s1 σ) := by
  unfold b_X5_weigh_86
  refine g_chk (fun hc8 => ?_)
  refine g_iast hX (dc_X5_weigh 47 rfl) (stS hΩ 51 rfl) hc8 rfl ?_
  refine g_iinc (w := (y5 + (1 : Int32))) (L' := [(5, .int (y5 + (1 : Int32))), (0, .ref 50), (1, .ref 23), (2, .int y2), (3, .int y3), (4, .int y4)]) hX (dc_X5_weigh 48 rfl) 5 rfl rfl (by decide) rfl ?_
  refine g_goto (tgt := 21) hX (dc_X5_weigh 49 rfl) (by decide) ?_
  exact g_sub [1, 2, 3, 4, 5, 0] rfl (hk21 (y2) (y3) (y4) ((y5 + (1 : Int32))) (wI σ 51 (ix s1) s0) )
def b_X5_weigh_52  (k13 : Int32 → Int32 → Int32 → MS → Option (MS)) (k21 : Int32 → Int32 → Int32 → Int32 → MS → Option (MS))  (y2 : Int32) (y3 : Int32) (y4 : Int32) (y5 : Int32) (s0 : Int32) (σ : MS) : Option (MS) := (f_X3_isAsleep y5 (y2 + y4) σ).bind (fun r9 => (if r9 = 0 then (b_X5_weigh_86 k13 k21 (y2) (y3) (y4) (y5) (s0) (((y4 * (4 : Int32)) + y5)) σ) else (b_X5_weigh_86 k13 k21 (y2) (y3) (y4) (y5) ((1000 : Int32)) (((y4 * (4 : Int32)) + y5)) σ)))
set_option maxHeartbeats 4000000 in
set_option maxRecDepth 20000 in
theorem c_X5_weigh_52 {X : CX} {Ω : OM} (hX : CF X Ω RX5 cX5_weigh 7 none rm_X5_weigh) (hO : OKO Ω) (hΩ : oSH Ω = SHX)   (k13 : Int32 → Int32 → Int32 → MS → Option (MS)) (hk13 : ∀ (y2 : Int32) (y3 : Int32) (y4 : Int32) (σ : MS) , GE X Ω 7 0 0 (emWV) 0 0 13 [(0, .ref 50), (1, .ref 23), (2, .int y2), (3, .int y3), (4, .int y4)] [] σ (k13 y2 y3 y4 σ)) (k21 : Int32 → Int32 → Int32 → Int32 → MS → Option (MS)) (hk21 : ∀ (y2 : Int32) (y3 : Int32) (y4 : Int32) (y5 : Int32) (σ : MS) , GE X Ω 7 0 0 (emWV) 0 0 21 [(0, .ref 50), (1, .ref 23), (2, .int y2), (3, .int y3), (4, .int y4), (5, .int y5)] [] σ (k21 y2 y3 y4 y5 σ))  (y2 : Int32) (y3 : Int32) (y4 : Int32) (y5 : Int32) (s0 : Int32) (σ : MS)  : GE X Ω 7 0 0 (emWV) 0 0 52 [(0, .ref 50), (1, .ref 23), (2, .int y2), (3, .int y3), (4, .int y4), (5, .int y5)] [.int s0] σ (b_X5_weigh_52  k13 k21 y2 y3 y4 y5 s0 σ) := by
  unfold b_X5_weigh_52
  refine g_istore (L' := [(6, .int s0), (0, .ref 50), (1, .ref 23), (2, .int y2), (3, .int y3), (4, .int y4), (5, .int y5)]) hX (dc_X5_weigh 29 rfl) (by decide) rfl ?_
  refine g_aload_n hX (dc_X5_weigh 30 rfl) rfl 1 rfl ?_
  refine g_getF (q := 51) hX (dc_X5_weigh 31 rfl) fl_X5_9 (by decide) rfl (stS hΩ 50 rfl) rfl ?_
  refine g_iload hX (dc_X5_weigh 32 rfl) 5 rfl ?_
  refine g_iconst (w := (4 : Int32)) hX (dc_X5_weigh 33 rfl) (by decide) ?_
  refine g_imul hX (dc_X5_weigh 34 rfl) ?_
  refine g_iload hX (dc_X5_weigh 35 rfl) 6 rfl ?_
  refine g_iadd hX (dc_X5_weigh 36 rfl) ?_
  refine g_aload_n hX (dc_X5_weigh 37 rfl) rfl 2 rfl ?_
  refine g_iload hX (dc_X5_weigh 38 rfl) 6 rfl ?_
  refine g_iload_n hX (dc_X5_weigh 39 rfl) rfl 3 rfl ?_
  refine g_iload hX (dc_X5_weigh 40 rfl) 5 rfl ?_
  refine g_iadd hX (dc_X5_weigh 41 rfl) ?_
  refine gV_PI (As := [.int y5, .int (y2 + y4)]) (st := [.int ((y4 * (4 : Int32)) + y5), .ref 51]) hX (dc_X5_weigh 42 rfl) ml_X5_26 (con_X3_isAsleep hO hΩ y5 (y2 + y4) σ) (stS hΩ 23 rfl) rfl rfl ⟨by decide, by decide⟩ ⟨rfl, rfl⟩ ⟨Nat.zero_le _, Nat.zero_le _⟩ (Nat.le_of_ble_eq_true rfl) (fun r9 _ => ?_)
  refine g_if_eq (tgt := 84) hX (dc_X5_weigh 43 rfl) (by decide) (fun h10 => ?_) (fun h10 => ?_)
  · refine g_iload hX (dc_X5_weigh 46 rfl) 0 rfl ?_
    exact g_sub [1, 2, 3, 4, 5, 6] rfl (c_X5_weigh_86 hX hO hΩ _ hk13 _ hk21 (y2) (y3) (y4) (y5) (s0) (((y4 * (4 : Int32)) + y5)) σ)
  · refine g_sipush (w := (1000 : Int32)) hX (dc_X5_weigh 44 rfl) (by decide) ?_
    refine g_goto (tgt := 86) hX (dc_X5_weigh 45 rfl) (by decide) ?_
    exact g_sub [1, 2, 3, 4, 5, 6] rfl (c_X5_weigh_86 hX hO hΩ _ hk13 _ hk21 (y2) (y3) (y4) (y5) ((1000 : Int32)) (((y4 * (4 : Int32)) + y5)) σ)
def b_X5_weigh_21  (k13 : Int32 → Int32 → Int32 → MS → Option (MS)) : Nat → Int32 → Int32 → Int32 → Int32 → MS → Option (MS)
  | 0, _, _, _, _, _ => none
  | n + 1, y2, y3, y4, y5, σ => (if (sI σ 50 1) ≤ y5 then (k13 (y2) (y3) ((y4 + (-1 : Int32))) σ) else (if y4 = (y3 - (1 : Int32)) then (b_X5_weigh_52 k13 (b_X5_weigh_21  k13 n) (y2) (y3) (y4) (y5) ((0 : Int32)) σ) else (f_X5_fewestFrom (y4 + (1 : Int32)) y5 σ).bind (fun r13 => (b_X5_weigh_52 k13 (b_X5_weigh_21  k13 n) (y2) (y3) (y4) (y5) (r13) σ))))
set_option maxHeartbeats 4000000 in
set_option maxRecDepth 20000 in
theorem c_X5_weigh_21 {X : CX} {Ω : OM} (hX : CF X Ω RX5 cX5_weigh 7 none rm_X5_weigh) (hO : OKO Ω) (hΩ : oSH Ω = SHX)   (k13 : Int32 → Int32 → Int32 → MS → Option (MS)) (hk13 : ∀ (y2 : Int32) (y3 : Int32) (y4 : Int32) (σ : MS) , GE X Ω 7 0 0 (emWV) 0 0 13 [(0, .ref 50), (1, .ref 23), (2, .int y2), (3, .int y3), (4, .int y4)] [] σ (k13 y2 y3 y4 σ)) : ∀ (n : Nat) (y2 : Int32) (y3 : Int32) (y4 : Int32) (y5 : Int32) (σ : MS) , GE X Ω 7 0 0 (emWV) 0 0 21 [(0, .ref 50), (1, .ref 23), (2, .int y2), (3, .int y3), (4, .int y4), (5, .int y5)] [] σ (b_X5_weigh_21  k13 n y2 y3 y4 y5 σ)
  | 0, _, _, _, _, _ => g_none
  | n + 1, y2, y3, y4, y5, σ => by
    have hk21 := c_X5_weigh_21 hX hO hΩ  k13 hk13 n
    unfold b_X5_weigh_21
    refine g_iload hX (dc_X5_weigh 12 rfl) 5 rfl ?_
    refine g_aload_n hX (dc_X5_weigh 13 rfl) rfl 0 rfl ?_
    refine g_getI hX (dc_X5_weigh 14 rfl) fl_X5_21 (by decide) rfl (stS hΩ 50 rfl) ?_
    refine g_icmp_ge (tgt := 93) hX (dc_X5_weigh 15 rfl) (by decide) (fun h11 => ?_) (fun h11 => ?_)
    · refine g_iinc (w := (y4 + (-1 : Int32))) (L' := [(4, .int (y4 + (-1 : Int32))), (0, .ref 50), (1, .ref 23), (2, .int y2), (3, .int y3), (5, .int y5)]) hX (dc_X5_weigh 50 rfl) 4 rfl rfl (by decide) rfl ?_
      refine g_goto (tgt := 13) hX (dc_X5_weigh 51 rfl) (by decide) ?_
      exact g_sub [1, 2, 3, 4, 0] rfl (hk13 (y2) (y3) ((y4 + (-1 : Int32))) σ )
    · refine g_iload hX (dc_X5_weigh 16 rfl) 4 rfl ?_
      refine g_iload_n hX (dc_X5_weigh 17 rfl) rfl 3 rfl ?_
      refine g_iconst (w := (1 : Int32)) hX (dc_X5_weigh 18 rfl) (by decide) ?_
      refine g_isub hX (dc_X5_weigh 19 rfl) ?_
      refine g_icmp_ne (tgt := 42) hX (dc_X5_weigh 20 rfl) (by decide) (fun h12 => ?_) (fun h12 => ?_)
      · refine g_iconst (w := (0 : Int32)) hX (dc_X5_weigh 21 rfl) (by decide) ?_
        refine g_goto (tgt := 52) hX (dc_X5_weigh 22 rfl) (by decide) ?_
        exact g_sub [0, 1, 2, 3, 4, 5] rfl (c_X5_weigh_52 hX hO hΩ _ hk13 _ hk21 (y2) (y3) (y4) (y5) ((0 : Int32)) σ)
      · refine g_aload_n hX (dc_X5_weigh 23 rfl) rfl 0 rfl ?_
        refine g_iload hX (dc_X5_weigh 24 rfl) 4 rfl ?_
        refine g_iconst (w := (1 : Int32)) hX (dc_X5_weigh 25 rfl) (by decide) ?_
        refine g_iadd hX (dc_X5_weigh 26 rfl) ?_
        refine g_iload hX (dc_X5_weigh 27 rfl) 5 rfl ?_
        refine gV_PI (As := [.int (y4 + (1 : Int32)), .int y5]) (st := []) hX (dc_X5_weigh 28 rfl) ml_X5_22 (con_X5_fewestFrom hO hΩ (y4 + (1 : Int32)) y5 σ) (stS hΩ 50 rfl) rfl rfl ⟨by decide, by decide⟩ ⟨rfl, rfl⟩ ⟨Nat.zero_le _, Nat.zero_le _⟩ (Nat.le_of_ble_eq_true rfl) (fun r13 _ => ?_)
        exact g_sub [0, 1, 2, 3, 4, 5] rfl (c_X5_weigh_52 hX hO hΩ _ hk13 _ hk21 (y2) (y3) (y4) (y5) (r13) σ)
def b_X5_weigh_13   : Nat → Int32 → Int32 → Int32 → MS → Option (MS)
  | 0, _, _, _, _ => none
  | n + 1, y2, y3, y4, σ => (if y4 < 0 then some (σ) else (b_X5_weigh_21 (b_X5_weigh_13  n) FU (y2) (y3) (y4) ((0 : Int32)) σ))
set_option maxHeartbeats 4000000 in
set_option maxRecDepth 20000 in
theorem c_X5_weigh_13 {X : CX} {Ω : OM} (hX : CF X Ω RX5 cX5_weigh 7 none rm_X5_weigh) (hO : OKO Ω) (hΩ : oSH Ω = SHX)    : ∀ (n : Nat) (y2 : Int32) (y3 : Int32) (y4 : Int32) (σ : MS) , GE X Ω 7 0 0 (emWV) 0 0 13 [(0, .ref 50), (1, .ref 23), (2, .int y2), (3, .int y3), (4, .int y4)] [] σ (b_X5_weigh_13  n y2 y3 y4 σ)
  | 0, _, _, _, _ => g_none
  | n + 1, y2, y3, y4, σ => by
    have hk13 := c_X5_weigh_13 hX hO hΩ  n
    unfold b_X5_weigh_13
    refine g_iload hX (dc_X5_weigh 8 rfl) 4 rfl ?_
    refine g_if_lt (tgt := 99) hX (dc_X5_weigh 9 rfl) (by decide) (fun h14 => ?_) (fun h14 => ?_)
    · exact g_vret hX (dc_X5_weigh 52 rfl) rfl (Nat.le_refl _) (Nat.le_refl _)
    · refine g_iconst (w := (0 : Int32)) hX (dc_X5_weigh 10 rfl) (by decide) ?_
      refine g_istore (L' := [(5, .int (0 : Int32)), (0, .ref 50), (1, .ref 23), (2, .int y2), (3, .int y3), (4, .int y4)]) hX (dc_X5_weigh 11 rfl) (by decide) rfl ?_
      exact g_sub [1, 2, 3, 4, 5, 0] rfl (c_X5_weigh_21 hX hO hΩ _ hk13 FU (y2) (y3) (y4) ((0 : Int32)) σ)
def b_X5_weigh_0   (x2 : Int32) (x3 : Int32)  (σ : MS) : Option (MS) := (b_X5_weigh_13 FU (x2) (x3) ((x3 - (1 : Int32))) (wI σ 50 1 (sI σ 23 3)))
set_option maxHeartbeats 4000000 in
set_option maxRecDepth 20000 in
theorem c_X5_weigh_0 {X : CX} {Ω : OM} (hX : CF X Ω RX5 cX5_weigh 7 none rm_X5_weigh) (hO : OKO Ω) (hΩ : oSH Ω = SHX)    (x2 : Int32) (x3 : Int32)  (σ : MS)  : GE X Ω 7 0 0 (emWV) 0 0 0 [(0, .ref 50), (1, .ref 23), (2, .int x2), (3, .int x3)] [] σ (b_X5_weigh_0  x2 x3 σ) := by
  unfold b_X5_weigh_0
  refine g_aload_n hX (dc_X5_weigh 0 rfl) rfl 0 rfl ?_
  refine g_aload_n hX (dc_X5_weigh 1 rfl) rfl 1 rfl ?_
  refine g_getI hX (dc_X5_weigh 2 rfl) fl_X5_15 (by decide) rfl (stS hΩ 23 rfl) ?_
  refine g_putI (raw := false) hX (dc_X5_weigh 3 rfl) fl_X5_21 (by decide) ⟨rfl, rfl⟩ ⟨rfl, rfl⟩ (stS hΩ 50 rfl) ?_
  refine g_iload_n hX (dc_X5_weigh 4 rfl) rfl 3 rfl ?_
  refine g_iconst (w := (1 : Int32)) hX (dc_X5_weigh 5 rfl) (by decide) ?_
  refine g_isub hX (dc_X5_weigh 6 rfl) ?_
  refine g_istore (L' := [(4, .int (x3 - (1 : Int32))), (0, .ref 50), (1, .ref 23), (2, .int x2), (3, .int x3)]) hX (dc_X5_weigh 7 rfl) (by decide) rfl ?_
  exact g_sub [1, 2, 3, 4, 0] rfl (c_X5_weigh_13 hX hO hΩ FU (x2) (x3) ((x3 - (1 : Int32))) (wI σ 50 1 (sI σ 23 3)))
def f_X5_weigh (x2 : Int32) (x3 : Int32) (σ : MS) : Option (MS) := b_X5_weigh_0  x2 x3 σ
theorem con_X5_weigh {Ω : OM} (hO : OKO Ω) (hΩ : oSH Ω = SHX) (x2 : Int32) (x3 : Int32) (σ : MS)  : Con Ω yX5_weigh cX5_weigh 7 none rm_X5_weigh (emWV) [.ref 50, .ref 23, .int x2, .int x3] σ (f_X5_weigh x2 x3 σ) :=
  con_of hO (by decide +kernel) (Nat.le_of_ble_eq_true rfl) rfl (fun X hX _ => c_X5_weigh_0 hX hO hΩ   x2 x3 σ )
def it_X5_firstBest : List (Nat × Instr × Nat × Nat) := [(0, .aload_n 0, 1, 1), (1, .iload_n 1, 1, 2), (2, .iload_n 2, 1, 3), (3, .invokevirtual 22, 3, 6), (6, .istore_n 3, 1, 7), (7, .iconst 0, 1, 8), (8, .istore 4, 2, 10), (10, .iload 4, 2, 12), (12, .aload_n 0, 1, 13), (13, .getfield 21, 3, 16), (16, .if_icmp .ge 24, 3, 19), (19, .aload_n 0, 1, 20), (20, .iload_n 1, 1, 21), (21, .iload_n 2, 1, 22), (22, .iload 4, 2, 24), (24, .invokevirtual 30, 3, 27), (27, .iload_n 3, 1, 28), (28, .if_icmp .ne 6, 3, 31), (31, .iload 4, 2, 33), (33, .ireturn, 1, 34), (34, .iinc 4 1, 3, 37), (37, .goto (-27), 3, 40), (40, .iload_n 2, 1, 41), (41, .ireturn, 1, 42)]
theorem id_X5_firstBest : ∀ q ∈ it_X5_firstBest, decode cX5_firstBest q.1 = .ok (q.2.1, q.2.2.1) ∧ q.1 + q.2.2.1 = q.2.2.2 := by decide +kernel
theorem dc_X5_firstBest {pc : Nat} {i : Instr} {n pc' : Nat} (j : Nat) (h : it_X5_firstBest[j]? = some (pc, i, n, pc')) : Dc cX5_firstBest pc i n pc' := dc_of id_X5_firstBest j h
abbrev rm_X5_firstBest : Room := { frames := 2, cells := 0, slots := 0, locals := 47 }
def b_X5_firstBest_10   : Nat → Int32 → Int32 → Int32 → Int32 → MS → Option (Int32)
  | 0, _, _, _, _, _ => none
  | n + 1, y1, y2, y3, y4, σ => (if (sI σ 50 1) ≤ y4 then some y2 else (f_X5_handingsBy y1 y2 y4 σ).bind (fun r6 => (if r6 = y3 then some y4 else ((b_X5_firstBest_10  n) (y1) (y2) (y3) ((y4 + (1 : Int32))) σ))))
set_option maxHeartbeats 4000000 in
set_option maxRecDepth 20000 in
theorem c_X5_firstBest_10 {X : CX} {Ω : OM} (hX : CF X Ω RX5 cX5_firstBest 5 (some .int) rm_X5_firstBest) (hO : OKO Ω) (hΩ : oSH Ω = SHX)   (σ : MS)  : ∀ (n : Nat) (y1 : Int32) (y2 : Int32) (y3 : Int32) (y4 : Int32)  , GE X Ω 5 0 0 (emPI σ) 0 0 10 [(0, .ref 50), (1, .int y1), (2, .int y2), (3, .int y3), (4, .int y4)] [] σ (b_X5_firstBest_10  n y1 y2 y3 y4 σ)
  | 0, _, _, _, _ => g_none
  | n + 1, y1, y2, y3, y4 => by
    have hk10 := c_X5_firstBest_10 hX hO hΩ  σ n
    unfold b_X5_firstBest_10
    refine g_iload hX (dc_X5_firstBest 7 rfl) 4 rfl ?_
    refine g_aload_n hX (dc_X5_firstBest 8 rfl) rfl 0 rfl ?_
    refine g_getI hX (dc_X5_firstBest 9 rfl) fl_X5_21 (by decide) rfl (stS hΩ 50 rfl) ?_
    refine g_icmp_ge (tgt := 40) hX (dc_X5_firstBest 10 rfl) (by decide) (fun h5 => ?_) (fun h5 => ?_)
    · refine g_iload_n hX (dc_X5_firstBest 22 rfl) rfl 2 rfl ?_
      exact g_iret hX (dc_X5_firstBest 23 rfl) rfl rfl (Nat.le_refl _) (Nat.le_refl _)
    · refine g_aload_n hX (dc_X5_firstBest 11 rfl) rfl 0 rfl ?_
      refine g_iload_n hX (dc_X5_firstBest 12 rfl) rfl 1 rfl ?_
      refine g_iload_n hX (dc_X5_firstBest 13 rfl) rfl 2 rfl ?_
      refine g_iload hX (dc_X5_firstBest 14 rfl) 4 rfl ?_
      refine gV_PI (As := [.int y1, .int y2, .int y4]) (st := []) hX (dc_X5_firstBest 15 rfl) ml_X5_30 (con_X5_handingsBy hO hΩ y1 y2 y4 σ) (stS hΩ 50 rfl) rfl rfl ⟨by decide, by decide⟩ ⟨rfl, rfl⟩ ⟨Nat.zero_le _, Nat.zero_le _⟩ (Nat.le_of_ble_eq_true rfl) (fun r6 _ => ?_)
      refine g_iload_n hX (dc_X5_firstBest 16 rfl) rfl 3 rfl ?_
      refine g_icmp_ne (tgt := 34) hX (dc_X5_firstBest 17 rfl) (by decide) (fun h7 => ?_) (fun h7 => ?_)
      · refine g_iload hX (dc_X5_firstBest 18 rfl) 4 rfl ?_
        exact g_iret hX (dc_X5_firstBest 19 rfl) rfl rfl (Nat.le_refl _) (Nat.le_refl _)
      · refine g_iinc (w := (y4 + (1 : Int32))) (L' := [(4, .int (y4 + (1 : Int32))), (0, .ref 50), (1, .int y1), (2, .int y2), (3, .int y3)]) hX (dc_X5_firstBest 20 rfl) 4 rfl rfl (by decide) rfl ?_
        refine g_goto (tgt := 10) hX (dc_X5_firstBest 21 rfl) (by decide) ?_
        exact g_sub [1, 2, 3, 4, 0] rfl (hk10 (y1) (y2) (y3) ((y4 + (1 : Int32))) )
def b_X5_firstBest_0   (x1 : Int32) (x2 : Int32)  (σ : MS) : Option (Int32) := (f_X5_fewestFrom x1 x2 σ).bind (fun r8 => (b_X5_firstBest_10 FU (x1) (x2) (r8) ((0 : Int32)) σ))
set_option maxHeartbeats 4000000 in
set_option maxRecDepth 20000 in
theorem c_X5_firstBest_0 {X : CX} {Ω : OM} (hX : CF X Ω RX5 cX5_firstBest 5 (some .int) rm_X5_firstBest) (hO : OKO Ω) (hΩ : oSH Ω = SHX)   (σ : MS)  (x1 : Int32) (x2 : Int32)    : GE X Ω 5 0 0 (emPI σ) 0 0 0 [(0, .ref 50), (1, .int x1), (2, .int x2)] [] σ (b_X5_firstBest_0  x1 x2 σ) := by
  unfold b_X5_firstBest_0
  refine g_aload_n hX (dc_X5_firstBest 0 rfl) rfl 0 rfl ?_
  refine g_iload_n hX (dc_X5_firstBest 1 rfl) rfl 1 rfl ?_
  refine g_iload_n hX (dc_X5_firstBest 2 rfl) rfl 2 rfl ?_
  refine gV_PI (As := [.int x1, .int x2]) (st := []) hX (dc_X5_firstBest 3 rfl) ml_X5_22 (con_X5_fewestFrom hO hΩ x1 x2 σ) (stS hΩ 50 rfl) rfl rfl ⟨by decide, by decide⟩ ⟨rfl, rfl⟩ ⟨Nat.zero_le _, Nat.zero_le _⟩ (Nat.le_of_ble_eq_true rfl) (fun r8 _ => ?_)
  refine g_istore_n (L' := [(3, .int r8), (0, .ref 50), (1, .int x1), (2, .int x2)]) hX (dc_X5_firstBest 4 rfl) rfl (by decide) rfl ?_
  refine g_iconst (w := (0 : Int32)) hX (dc_X5_firstBest 5 rfl) (by decide) ?_
  refine g_istore (L' := [(4, .int (0 : Int32)), (3, .int r8), (0, .ref 50), (1, .int x1), (2, .int x2)]) hX (dc_X5_firstBest 6 rfl) (by decide) rfl ?_
  exact g_sub [2, 3, 4, 1, 0] rfl (c_X5_firstBest_10 hX hO hΩ σ FU (x1) (x2) (r8) ((0 : Int32)))
def f_X5_firstBest (x1 : Int32) (x2 : Int32) (σ : MS) : Option (Int32) := b_X5_firstBest_0  x1 x2 σ
theorem con_X5_firstBest {Ω : OM} (hO : OKO Ω) (hΩ : oSH Ω = SHX) (x1 : Int32) (x2 : Int32) (σ : MS)  : Con Ω yX5_firstBest cX5_firstBest 5 (some .int) rm_X5_firstBest (emPI σ) [.ref 50, .int x1, .int x2] σ (f_X5_firstBest x1 x2 σ) :=
  con_of hO (by decide +kernel) (Nat.le_of_ble_eq_true rfl) rfl (fun X hX _ => c_X5_firstBest_0 hX hO hΩ   σ x1 x2)
def it_X5_holderIn : List (Nat × Instr × Nat × Nat) := [(0, .iload_n 2, 1, 1), (1, .istore_n 3, 1, 2), (2, .iconst 0, 1, 3), (3, .istore 4, 2, 5), (5, .iload 4, 2, 7), (7, .iload_n 1, 1, 8), (8, .if_icmp .gt 17, 3, 11), (11, .aload_n 0, 1, 12), (12, .iload 4, 2, 14), (14, .iload_n 3, 1, 15), (15, .invokevirtual 39, 3, 18), (18, .istore_n 3, 1, 19), (19, .iinc 4 1, 3, 22), (22, .goto (-17), 3, 25), (25, .iload_n 3, 1, 26), (26, .ireturn, 1, 27)]
theorem id_X5_holderIn : ∀ q ∈ it_X5_holderIn, decode cX5_holderIn q.1 = .ok (q.2.1, q.2.2.1) ∧ q.1 + q.2.2.1 = q.2.2.2 := by decide +kernel
theorem dc_X5_holderIn {pc : Nat} {i : Instr} {n pc' : Nat} (j : Nat) (h : it_X5_holderIn[j]? = some (pc, i, n, pc')) : Dc cX5_holderIn pc i n pc' := dc_of id_X5_holderIn j h
abbrev rm_X5_holderIn : Room := { frames := 3, cells := 0, slots := 0, locals := 71 }
def b_X5_holderIn_5   : Nat → Int32 → Int32 → Int32 → MS → Option (Int32)
  | 0, _, _, _, _ => none
  | n + 1, y1, y3, y4, σ => (if y1 < y4 then some y3 else (f_X5_firstBest y4 y3 σ).bind (fun r4 => ((b_X5_holderIn_5  n) (y1) (r4) ((y4 + (1 : Int32))) σ)))
set_option maxHeartbeats 4000000 in
set_option maxRecDepth 20000 in
theorem c_X5_holderIn_5 {X : CX} {Ω : OM} (hX : CF X Ω RX5 cX5_holderIn 5 (some .int) rm_X5_holderIn) (hO : OKO Ω) (hΩ : oSH Ω = SHX)   (σ : MS)  : ∀ (n : Nat) (y1 : Int32) (y3 : Int32) (y4 : Int32)  , GE X Ω 5 0 0 (emPI σ) 0 0 5 [(0, .ref 50), (1, .int y1), (3, .int y3), (4, .int y4)] [] σ (b_X5_holderIn_5  n y1 y3 y4 σ)
  | 0, _, _, _ => g_none
  | n + 1, y1, y3, y4 => by
    have hk5 := c_X5_holderIn_5 hX hO hΩ  σ n
    unfold b_X5_holderIn_5
    refine g_iload hX (dc_X5_holderIn 4 rfl) 3 rfl ?_
    refine g_iload_n hX (dc_X5_holderIn 5 rfl) rfl 1 rfl ?_
    refine g_icmp_gt (tgt := 25) hX (dc_X5_holderIn 6 rfl) (by decide) (fun h3 => ?_) (fun h3 => ?_)
    · refine g_iload_n hX (dc_X5_holderIn 14 rfl) rfl 2 rfl ?_
      exact g_iret hX (dc_X5_holderIn 15 rfl) rfl rfl (Nat.le_refl _) (Nat.le_refl _)
    · refine g_aload_n hX (dc_X5_holderIn 7 rfl) rfl 0 rfl ?_
      refine g_iload hX (dc_X5_holderIn 8 rfl) 3 rfl ?_
      refine g_iload_n hX (dc_X5_holderIn 9 rfl) rfl 2 rfl ?_
      refine gV_PI (As := [.int y4, .int y3]) (st := []) hX (dc_X5_holderIn 10 rfl) ml_X5_39 (con_X5_firstBest hO hΩ y4 y3 σ) (stS hΩ 50 rfl) rfl rfl ⟨by decide, by decide⟩ ⟨rfl, rfl⟩ ⟨Nat.zero_le _, Nat.zero_le _⟩ (Nat.le_of_ble_eq_true rfl) (fun r4 _ => ?_)
      refine g_istore_n (L' := [(3, .int r4), (0, .ref 50), (1, .int y1), (4, .int y4)]) hX (dc_X5_holderIn 11 rfl) rfl (by decide) rfl ?_
      refine g_iinc (w := (y4 + (1 : Int32))) (L' := [(4, .int (y4 + (1 : Int32))), (3, .int r4), (0, .ref 50), (1, .int y1)]) hX (dc_X5_holderIn 12 rfl) 3 rfl rfl (by decide) rfl ?_
      refine g_goto (tgt := 5) hX (dc_X5_holderIn 13 rfl) (by decide) ?_
      exact g_sub [2, 3, 1, 0] rfl (hk5 (y1) (r4) ((y4 + (1 : Int32))) )
def b_X5_holderIn_0   (x1 : Int32) (x2 : Int32)  (σ : MS) : Option (Int32) := (b_X5_holderIn_5 FU (x1) (x2) ((0 : Int32)) σ)
set_option maxHeartbeats 4000000 in
set_option maxRecDepth 20000 in
theorem c_X5_holderIn_0 {X : CX} {Ω : OM} (hX : CF X Ω RX5 cX5_holderIn 5 (some .int) rm_X5_holderIn) (hO : OKO Ω) (hΩ : oSH Ω = SHX)   (σ : MS)  (x1 : Int32) (x2 : Int32)    : GE X Ω 5 0 0 (emPI σ) 0 0 0 [(0, .ref 50), (1, .int x1), (2, .int x2)] [] σ (b_X5_holderIn_0  x1 x2 σ) := by
  unfold b_X5_holderIn_0
  refine g_iload_n hX (dc_X5_holderIn 0 rfl) rfl 2 rfl ?_
  refine g_istore_n (L' := [(3, .int x2), (0, .ref 50), (1, .int x1), (2, .int x2)]) hX (dc_X5_holderIn 1 rfl) rfl (by decide) rfl ?_
  refine g_iconst (w := (0 : Int32)) hX (dc_X5_holderIn 2 rfl) (by decide) ?_
  refine g_istore (L' := [(4, .int (0 : Int32)), (3, .int x2), (0, .ref 50), (1, .int x1), (2, .int x2)]) hX (dc_X5_holderIn 3 rfl) (by decide) rfl ?_
  exact g_sub [2, 3, 1, 0] rfl (c_X5_holderIn_5 hX hO hΩ σ FU (x1) (x2) ((0 : Int32)))
def f_X5_holderIn (x1 : Int32) (x2 : Int32) (σ : MS) : Option (Int32) := b_X5_holderIn_0  x1 x2 σ
theorem con_X5_holderIn {Ω : OM} (hO : OKO Ω) (hΩ : oSH Ω = SHX) (x1 : Int32) (x2 : Int32) (σ : MS)  : Con Ω yX5_holderIn cX5_holderIn 5 (some .int) rm_X5_holderIn (emPI σ) [.ref 50, .int x1, .int x2] σ (f_X5_holderIn x1 x2 σ) :=
  con_of hO (by decide +kernel) (Nat.le_of_ble_eq_true rfl) rfl (fun X hX _ => c_X5_holderIn_0 hX hO hΩ   σ x1 x2)
def it_J9_max_7cf53 : List (Nat × Instr × Nat × Nat) := [(0, .iload_n 0, 1, 1), (1, .iload_n 1, 1, 2), (2, .if_icmp .lt 7, 3, 5), (5, .iload_n 0, 1, 6), (6, .goto 4, 3, 9), (9, .iload_n 1, 1, 10), (10, .ireturn, 1, 11)]
theorem id_J9_max_7cf53 : ∀ q ∈ it_J9_max_7cf53, decode cJ9_max_7cf53 q.1 = .ok (q.2.1, q.2.2.1) ∧ q.1 + q.2.2.1 = q.2.2.2 := by decide +kernel
theorem dc_J9_max_7cf53 {pc : Nat} {i : Instr} {n pc' : Nat} (j : Nat) (h : it_J9_max_7cf53[j]? = some (pc, i, n, pc')) : Dc cJ9_max_7cf53 pc i n pc' := dc_of id_J9_max_7cf53 j h
abbrev rm_J9_max_7cf53 : Room := { frames := 0, cells := 0, slots := 0, locals := 0 }
def b_J9_max_7cf53_10    (s0 : Int32)  : Option (Int32) := some s0
set_option maxHeartbeats 4000000 in
set_option maxRecDepth 20000 in
theorem c_J9_max_7cf53_10 {X : CX} {Ω : OM} (hX : CF X Ω RJ9 cJ9_max_7cf53 2 (some .int) rm_J9_max_7cf53) (hO : OKO Ω) (hΩ : oSH Ω = SHX)   (σ : MS)   (s0 : Int32)   : GE X Ω 2 0 0 (emPI σ) 0 0 10 [] [.int s0] σ (b_J9_max_7cf53_10  s0) := by
  unfold b_J9_max_7cf53_10
  exact g_iret hX (dc_J9_max_7cf53 6 rfl) rfl rfl (Nat.le_refl _) (Nat.le_refl _)
def b_J9_max_7cf53_0   (x0 : Int32) (x1 : Int32)   : Option (Int32) := (if x0 < x1 then (b_J9_max_7cf53_10 (x1)) else (b_J9_max_7cf53_10 (x0)))
set_option maxHeartbeats 4000000 in
set_option maxRecDepth 20000 in
theorem c_J9_max_7cf53_0 {X : CX} {Ω : OM} (hX : CF X Ω RJ9 cJ9_max_7cf53 2 (some .int) rm_J9_max_7cf53) (hO : OKO Ω) (hΩ : oSH Ω = SHX)   (σ : MS)  (x0 : Int32) (x1 : Int32)    : GE X Ω 2 0 0 (emPI σ) 0 0 0 [(0, .int x0), (1, .int x1)] [] σ (b_J9_max_7cf53_0  x0 x1) := by
  unfold b_J9_max_7cf53_0
  refine g_iload_n hX (dc_J9_max_7cf53 0 rfl) rfl 0 rfl ?_
  refine g_iload_n hX (dc_J9_max_7cf53 1 rfl) rfl 1 rfl ?_
  refine g_icmp_lt (tgt := 9) hX (dc_J9_max_7cf53 2 rfl) (by decide) (fun h2 => ?_) (fun h2 => ?_)
  · refine g_iload_n hX (dc_J9_max_7cf53 5 rfl) rfl 1 rfl ?_
    exact g_sub [] rfl (c_J9_max_7cf53_10 hX hO hΩ σ (x1))
  · refine g_iload_n hX (dc_J9_max_7cf53 3 rfl) rfl 0 rfl ?_
    refine g_goto (tgt := 10) hX (dc_J9_max_7cf53 4 rfl) (by decide) ?_
    exact g_sub [] rfl (c_J9_max_7cf53_10 hX hO hΩ σ (x0))
def f_J9_max_7cf53 (x0 : Int32) (x1 : Int32)  : Option (Int32) := b_J9_max_7cf53_0  x0 x1 
theorem con_J9_max_7cf53 {Ω : OM} (hO : OKO Ω) (hΩ : oSH Ω = SHX) (x0 : Int32) (x1 : Int32) (σ : MS)  : Con Ω yJ9_max_7cf53 cJ9_max_7cf53 2 (some .int) rm_J9_max_7cf53 (emPI σ) [.int x0, .int x1] σ (f_J9_max_7cf53 x0 x1 ) :=
  con_ofF hO (by decide +kernel) (Nat.le_of_ble_eq_true rfl) rfl (fun X hX _ => c_J9_max_7cf53_0 hX hO hΩ   σ x0 x1)
def it_X7_readTake : List (Nat × Instr × Nat × Nat) := [(0, .aload_n 0, 1, 1), (1, .getfield 27, 3, 4), (4, .invokevirtual 54, 3, 7), (7, .aload_n 0, 1, 8), (8, .getfield 27, 3, 11), (11, .ldc 57, 2, 13), (13, .invokevirtual 59, 3, 16), (16, .ifCond .eq 14, 3, 19), (19, .aload_n 0, 1, 20), (20, .getfield 27, 3, 23), (23, .iconst 0, 1, 24), (24, .invokevirtual 63, 3, 27), (27, .goto 17, 3, 30), (30, .iload_n 1, 1, 31), (31, .bipush 12, 2, 33), (33, .if_icmp .lt 11, 3, 36), (36, .aload_n 0, 1, 37), (37, .getfield 27, 3, 40), (40, .iconst 4, 1, 41), (41, .invokevirtual 63, 3, 44), (44, .aload_n 0, 1, 45), (45, .iconst 0, 1, 46), (46, .putfield 66, 3, 49), (49, .aload_n 0, 1, 50), (50, .iconst 0, 1, 51), (51, .putfield 69, 3, 54), (54, .aload_n 0, 1, 55), (55, .iconst 0, 1, 56), (56, .putfield 72, 3, 59), (59, .aload_n 0, 1, 60), (60, .iconst 0, 1, 61), (61, .putfield 75, 3, 64), (64, .return_, 1, 65)]
theorem id_X7_readTake : ∀ q ∈ it_X7_readTake, decode cX7_readTake q.1 = .ok (q.2.1, q.2.2.1) ∧ q.1 + q.2.2.1 = q.2.2.2 := by decide +kernel
theorem dc_X7_readTake {pc : Nat} {i : Instr} {n pc' : Nat} (j : Nat) (h : it_X7_readTake[j]? = some (pc, i, n, pc')) : Dc cX7_readTake pc i n pc' := dc_of id_X7_readTake j h
abbrev rm_X7_readTake : Room := { frames := 6, cells := 0, slots := 0, locals := 133 }
def b_X7_readTake_44     (σ : MS) : Option (MS) := some ((wI (wI (wI (wI σ 17 2 (0 : Int32)) 17 5 (0 : Int32)) 17 3 (0 : Int32)) 17 4 (0 : Int32)))
set_option maxHeartbeats 4000000 in
set_option maxRecDepth 20000 in
theorem c_X7_readTake_44 {X : CX} {Ω : OM} (hX : CF X Ω RX7 cX7_readTake 2 none rm_X7_readTake) (hO : OKO Ω) (hΩ : oSH Ω = SHX)      (σ : MS)  : GE X Ω 2 0 0 (emWV) 0 0 44 [(0, .ref 17)] [] σ (b_X7_readTake_44  σ) := by
  unfold b_X7_readTake_44
  refine g_aload_n hX (dc_X7_readTake 20 rfl) rfl 0 rfl ?_
  refine g_iconst (w := (0 : Int32)) hX (dc_X7_readTake 21 rfl) (by decide) ?_
  refine g_putI (raw := false) hX (dc_X7_readTake 22 rfl) fl_X7_66 (by decide) ⟨rfl, rfl⟩ ⟨rfl, rfl⟩ (stS hΩ 17 rfl) ?_
  refine g_aload_n hX (dc_X7_readTake 23 rfl) rfl 0 rfl ?_
  refine g_iconst (w := (0 : Int32)) hX (dc_X7_readTake 24 rfl) (by decide) ?_
  refine g_putI (raw := false) hX (dc_X7_readTake 25 rfl) fl_X7_69 (by decide) ⟨rfl, rfl⟩ ⟨rfl, rfl⟩ (stS hΩ 17 rfl) ?_
  refine g_aload_n hX (dc_X7_readTake 26 rfl) rfl 0 rfl ?_
  refine g_iconst (w := (0 : Int32)) hX (dc_X7_readTake 27 rfl) (by decide) ?_
  refine g_putI (raw := false) hX (dc_X7_readTake 28 rfl) fl_X7_72 (by decide) ⟨rfl, rfl⟩ ⟨rfl, rfl⟩ (stS hΩ 17 rfl) ?_
  refine g_aload_n hX (dc_X7_readTake 29 rfl) rfl 0 rfl ?_
  refine g_iconst (w := (0 : Int32)) hX (dc_X7_readTake 30 rfl) (by decide) ?_
  refine g_putI (raw := false) hX (dc_X7_readTake 31 rfl) fl_X7_75 (by decide) ⟨rfl, rfl⟩ ⟨rfl, rfl⟩ (stS hΩ 17 rfl) ?_
  exact g_vret hX (dc_X7_readTake 32 rfl) rfl (Nat.le_refl _) (Nat.le_refl _)
def b_X7_readTake_0   (x1 : Int32)  (σ : MS) : Option (MS) := (f_X4_advance 20 σ).bind (fun r7 => (f_X4_wordAmong 20 1 r7).bind (fun r8 => (if r8 = 0 then (if x1 < (12 : Int32) then (b_X7_readTake_44 r7) else (f_X4_fail 20 (4 : Int32) r7).bind (fun r11 => (b_X7_readTake_44 r11))) else (f_X4_fail 20 (0 : Int32) r7).bind (fun r12 => (b_X7_readTake_44 r12)))))
set_option maxHeartbeats 4000000 in
set_option maxRecDepth 20000 in
theorem c_X7_readTake_0 {X : CX} {Ω : OM} (hX : CF X Ω RX7 cX7_readTake 2 none rm_X7_readTake) (hO : OKO Ω) (hΩ : oSH Ω = SHX)    (x1 : Int32)  (σ : MS)  : GE X Ω 2 0 0 (emWV) 0 0 0 [(0, .ref 17), (1, .int x1)] [] σ (b_X7_readTake_0  x1 σ) := by
  unfold b_X7_readTake_0
  refine g_aload_n hX (dc_X7_readTake 0 rfl) rfl 0 rfl ?_
  refine g_getF (q := 20) hX (dc_X7_readTake 1 rfl) fl_X7_27 (by decide) rfl (stS hΩ 17 rfl) rfl ?_
  refine gV_WV (As := []) (st := []) hX (dc_X7_readTake 2 rfl) ml_X7_54 (con_X4_advance hO hΩ 20 σ (stR hΩ 20 (by decide))) (stS hΩ 20 rfl) rfl rfl ⟨by decide, by decide⟩ ⟨rfl, rfl⟩ ⟨Nat.zero_le _, Nat.zero_le _⟩ (Nat.le_of_ble_eq_true rfl) (fun r7 _ => ?_)
  refine g_aload_n hX (dc_X7_readTake 3 rfl) rfl 0 rfl ?_
  refine g_getF (q := 20) hX (dc_X7_readTake 4 rfl) fl_X7_27 (by decide) rfl (stS hΩ 17 rfl) rfl ?_
  refine g_ldcS (i := 1) hX (dc_X7_readTake 5 rfl) (by decide) rfl ?_
  refine gV_PI (As := [.ref (1000000 + 1)]) (st := []) hX (dc_X7_readTake 6 rfl) ml_X7_59 (con_X4_wordAmong hO hΩ 20 1 r7 (stR hΩ 20 (by decide)) (by decide)) (stS hΩ 20 rfl) rfl rfl ⟨by decide, by decide⟩ ⟨rfl, rfl⟩ ⟨Nat.zero_le _, Nat.zero_le _⟩ (Nat.le_of_ble_eq_true rfl) (fun r8 _ => ?_)
  refine g_if_eq (tgt := 30) hX (dc_X7_readTake 7 rfl) (by decide) (fun h9 => ?_) (fun h9 => ?_)
  · refine g_iload_n hX (dc_X7_readTake 13 rfl) rfl 1 rfl ?_
    refine g_bipush (w := (12 : Int32)) hX (dc_X7_readTake 14 rfl) (by decide) ?_
    refine g_icmp_lt (tgt := 44) hX (dc_X7_readTake 15 rfl) (by decide) (fun h10 => ?_) (fun h10 => ?_)
    · exact g_sub [0] rfl (c_X7_readTake_44 hX hO hΩ r7)
    · refine g_aload_n hX (dc_X7_readTake 16 rfl) rfl 0 rfl ?_
      refine g_getF (q := 20) hX (dc_X7_readTake 17 rfl) fl_X7_27 (by decide) rfl (stS hΩ 17 rfl) rfl ?_
      refine g_iconst (w := (4 : Int32)) hX (dc_X7_readTake 18 rfl) (by decide) ?_
      refine gV_WV (As := [.int (4 : Int32)]) (st := []) hX (dc_X7_readTake 19 rfl) ml_X7_63 (con_X4_fail hO hΩ 20 (4 : Int32) r7 (stR hΩ 20 (by decide))) (stS hΩ 20 rfl) rfl rfl ⟨by decide, by decide⟩ ⟨rfl, rfl⟩ ⟨Nat.zero_le _, Nat.zero_le _⟩ (Nat.le_of_ble_eq_true rfl) (fun r11 _ => ?_)
      exact g_sub [0] rfl (c_X7_readTake_44 hX hO hΩ r11)
  · refine g_aload_n hX (dc_X7_readTake 8 rfl) rfl 0 rfl ?_
    refine g_getF (q := 20) hX (dc_X7_readTake 9 rfl) fl_X7_27 (by decide) rfl (stS hΩ 17 rfl) rfl ?_
    refine g_iconst (w := (0 : Int32)) hX (dc_X7_readTake 10 rfl) (by decide) ?_
    refine gV_WV (As := [.int (0 : Int32)]) (st := []) hX (dc_X7_readTake 11 rfl) ml_X7_63 (con_X4_fail hO hΩ 20 (0 : Int32) r7 (stR hΩ 20 (by decide))) (stS hΩ 20 rfl) rfl rfl ⟨by decide, by decide⟩ ⟨rfl, rfl⟩ ⟨Nat.zero_le _, Nat.zero_le _⟩ (Nat.le_of_ble_eq_true rfl) (fun r12 _ => ?_)
    refine g_goto (tgt := 44) hX (dc_X7_readTake 12 rfl) (by decide) ?_
    exact g_sub [0] rfl (c_X7_readTake_44 hX hO hΩ r12)
def f_X7_readTake (x1 : Int32) (σ : MS) : Option (MS) := b_X7_readTake_0  x1 σ
theorem con_X7_readTake {Ω : OM} (hO : OKO Ω) (hΩ : oSH Ω = SHX) (x1 : Int32) (σ : MS)  : Con Ω yX7_readTake cX7_readTake 2 none rm_X7_readTake (emWV) [.ref 17, .int x1] σ (f_X7_readTake x1 σ) :=
  con_of hO (by decide +kernel) (Nat.le_of_ble_eq_true rfl) rfl (fun X hX _ => c_X7_readTake_0 hX hO hΩ   x1 σ )
def it_X7_operationOfSign : List (Nat × Instr × Nat × Nat) := [(0, .aload_n 0, 1, 1), (1, .getfield 27, 3, 4), (4, .getfield 51, 3, 7), (7, .iconst 3, 1, 8), (8, .if_icmp .eq 5, 3, 11), (11, .iconst (-1), 1, 12), (12, .ireturn, 1, 13), (13, .aload_n 0, 1, 14), (14, .getfield 27, 3, 17), (17, .getfield 143, 3, 20), (20, .lookupswitch 118 #[(37, 96), (42, 92), (43, 98), (45, 100), (47, 94), (60, 103), (61, 109), (62, 115), (316, 106), (318, 112)], 92, 112), (112, .iconst 2, 1, 113), (113, .ireturn, 1, 114), (114, .iconst 3, 1, 115), (115, .ireturn, 1, 116), (116, .iconst 4, 1, 117), (117, .ireturn, 1, 118), (118, .iconst 5, 1, 119), (119, .ireturn, 1, 120), (120, .bipush 6, 2, 122), (122, .ireturn, 1, 123), (123, .bipush 7, 2, 125), (125, .ireturn, 1, 126), (126, .bipush 8, 2, 128), (128, .ireturn, 1, 129), (129, .bipush 9, 2, 131), (131, .ireturn, 1, 132), (132, .bipush 10, 2, 134), (134, .ireturn, 1, 135), (135, .bipush 11, 2, 137), (137, .ireturn, 1, 138), (138, .iconst (-1), 1, 139), (139, .ireturn, 1, 140)]
theorem id_X7_operationOfSign : ∀ q ∈ it_X7_operationOfSign, decode cX7_operationOfSign q.1 = .ok (q.2.1, q.2.2.1) ∧ q.1 + q.2.2.1 = q.2.2.2 := by decide +kernel
theorem dc_X7_operationOfSign {pc : Nat} {i : Instr} {n pc' : Nat} (j : Nat) (h : it_X7_operationOfSign[j]? = some (pc, i, n, pc')) : Dc cX7_operationOfSign pc i n pc' := dc_of id_X7_operationOfSign j h
abbrev rm_X7_operationOfSign : Room := { frames := 0, cells := 0, slots := 0, locals := 0 }
def b_X7_operationOfSign_0     (σ : MS) : Option (Int32) := (if (sI σ 20 2) = (3 : Int32) then (if (sI σ 20 5) = (37 : Int32) then some (4 : Int32) else (if (sI σ 20 5) = (42 : Int32) then some (2 : Int32) else (if (sI σ 20 5) = (43 : Int32) then some (5 : Int32) else (if (sI σ 20 5) = (45 : Int32) then some (6 : Int32) else (if (sI σ 20 5) = (47 : Int32) then some (3 : Int32) else (if (sI σ 20 5) = (60 : Int32) then some (7 : Int32) else (if (sI σ 20 5) = (61 : Int32) then some (9 : Int32) else (if (sI σ 20 5) = (62 : Int32) then some (11 : Int32) else (if (sI σ 20 5) = (316 : Int32) then some (8 : Int32) else (if (sI σ 20 5) = (318 : Int32) then some (10 : Int32) else some (-1 : Int32))))))))))) else some (-1 : Int32))
set_option maxHeartbeats 4000000 in
set_option maxRecDepth 20000 in
theorem c_X7_operationOfSign_0 {X : CX} {Ω : OM} (hX : CF X Ω RX7 cX7_operationOfSign 1 (some .int) rm_X7_operationOfSign) (hO : OKO Ω) (hΩ : oSH Ω = SHX)   (σ : MS)      : GE X Ω 1 0 0 (emPI σ) 0 0 0 [(0, .ref 17)] [] σ (b_X7_operationOfSign_0  σ) := by
  unfold b_X7_operationOfSign_0
  refine g_aload_n hX (dc_X7_operationOfSign 0 rfl) rfl 0 rfl ?_
  refine g_getF (q := 20) hX (dc_X7_operationOfSign 1 rfl) fl_X7_27 (by decide) rfl (stS hΩ 17 rfl) rfl ?_
  refine g_getI hX (dc_X7_operationOfSign 2 rfl) fl_X7_51 (by decide) rfl (stS hΩ 20 rfl) ?_
  refine g_iconst (w := (3 : Int32)) hX (dc_X7_operationOfSign 3 rfl) (by decide) ?_
  refine g_icmp_eq (tgt := 13) hX (dc_X7_operationOfSign 4 rfl) (by decide) (fun h12 => ?_) (fun h12 => ?_)
  · refine g_aload_n hX (dc_X7_operationOfSign 7 rfl) rfl 0 rfl ?_
    refine g_getF (q := 20) hX (dc_X7_operationOfSign 8 rfl) fl_X7_27 (by decide) rfl (stS hΩ 17 rfl) rfl ?_
    refine g_getI hX (dc_X7_operationOfSign 9 rfl) fl_X7_143 (by decide) rfl (stS hΩ 20 rfl) ?_
    refine g_ite (fun h13 => ?_) (fun h13 => ?_)
    · refine g_lks (off := 96) (tgt := 116) hX (dc_X7_operationOfSign 10 rfl) (by decide) (by rw [h13]; decide) (by decide) ?_
      refine g_iconst (w := (4 : Int32)) hX (dc_X7_operationOfSign 15 rfl) (by decide) ?_
      exact g_iret hX (dc_X7_operationOfSign 16 rfl) rfl rfl (Nat.le_refl _) (Nat.le_refl _)
    · refine g_ite (fun h14 => ?_) (fun h14 => ?_)
      · refine g_lks (off := 92) (tgt := 112) hX (dc_X7_operationOfSign 10 rfl) (by decide) (by rw [h14]; decide) (by decide) ?_
        refine g_iconst (w := (2 : Int32)) hX (dc_X7_operationOfSign 11 rfl) (by decide) ?_
        exact g_iret hX (dc_X7_operationOfSign 12 rfl) rfl rfl (Nat.le_refl _) (Nat.le_refl _)
      · refine g_ite (fun h15 => ?_) (fun h15 => ?_)
        · refine g_lks (off := 98) (tgt := 118) hX (dc_X7_operationOfSign 10 rfl) (by decide) (by rw [h15]; decide) (by decide) ?_
          refine g_iconst (w := (5 : Int32)) hX (dc_X7_operationOfSign 17 rfl) (by decide) ?_
          exact g_iret hX (dc_X7_operationOfSign 18 rfl) rfl rfl (Nat.le_refl _) (Nat.le_refl _)
        · refine g_ite (fun h16 => ?_) (fun h16 => ?_)
          · refine g_lks (off := 100) (tgt := 120) hX (dc_X7_operationOfSign 10 rfl) (by decide) (by rw [h16]; decide) (by decide) ?_
            refine g_bipush (w := (6 : Int32)) hX (dc_X7_operationOfSign 19 rfl) (by decide) ?_
            exact g_iret hX (dc_X7_operationOfSign 20 rfl) rfl rfl (Nat.le_refl _) (Nat.le_refl _)
          · refine g_ite (fun h17 => ?_) (fun h17 => ?_)
            · refine g_lks (off := 94) (tgt := 114) hX (dc_X7_operationOfSign 10 rfl) (by decide) (by rw [h17]; decide) (by decide) ?_
              refine g_iconst (w := (3 : Int32)) hX (dc_X7_operationOfSign 13 rfl) (by decide) ?_
              exact g_iret hX (dc_X7_operationOfSign 14 rfl) rfl rfl (Nat.le_refl _) (Nat.le_refl _)
            · refine g_ite (fun h18 => ?_) (fun h18 => ?_)
              · refine g_lks (off := 103) (tgt := 123) hX (dc_X7_operationOfSign 10 rfl) (by decide) (by rw [h18]; decide) (by decide) ?_
                refine g_bipush (w := (7 : Int32)) hX (dc_X7_operationOfSign 21 rfl) (by decide) ?_
                exact g_iret hX (dc_X7_operationOfSign 22 rfl) rfl rfl (Nat.le_refl _) (Nat.le_refl _)
              · refine g_ite (fun h19 => ?_) (fun h19 => ?_)
                · refine g_lks (off := 109) (tgt := 129) hX (dc_X7_operationOfSign 10 rfl) (by decide) (by rw [h19]; decide) (by decide) ?_
                  refine g_bipush (w := (9 : Int32)) hX (dc_X7_operationOfSign 25 rfl) (by decide) ?_
                  exact g_iret hX (dc_X7_operationOfSign 26 rfl) rfl rfl (Nat.le_refl _) (Nat.le_refl _)
                · refine g_ite (fun h20 => ?_) (fun h20 => ?_)
                  · refine g_lks (off := 115) (tgt := 135) hX (dc_X7_operationOfSign 10 rfl) (by decide) (by rw [h20]; decide) (by decide) ?_
                    refine g_bipush (w := (11 : Int32)) hX (dc_X7_operationOfSign 29 rfl) (by decide) ?_
                    exact g_iret hX (dc_X7_operationOfSign 30 rfl) rfl rfl (Nat.le_refl _) (Nat.le_refl _)
                  · refine g_ite (fun h21 => ?_) (fun h21 => ?_)
                    · refine g_lks (off := 106) (tgt := 126) hX (dc_X7_operationOfSign 10 rfl) (by decide) (by rw [h21]; decide) (by decide) ?_
                      refine g_bipush (w := (8 : Int32)) hX (dc_X7_operationOfSign 23 rfl) (by decide) ?_
                      exact g_iret hX (dc_X7_operationOfSign 24 rfl) rfl rfl (Nat.le_refl _) (Nat.le_refl _)
                    · refine g_ite (fun h22 => ?_) (fun h22 => ?_)
                      · refine g_lks (off := 112) (tgt := 132) hX (dc_X7_operationOfSign 10 rfl) (by decide) (by rw [h22]; decide) (by decide) ?_
                        refine g_bipush (w := (10 : Int32)) hX (dc_X7_operationOfSign 27 rfl) (by decide) ?_
                        exact g_iret hX (dc_X7_operationOfSign 28 rfl) rfl rfl (Nat.le_refl _) (Nat.le_refl _)
                      · refine g_lks (off := 118) (tgt := 138) hX (dc_X7_operationOfSign 10 rfl) (by decide) (by have e0 := i32ne h13 (k := 37) (by decide); have e1 := i32ne h14 (k := 42) (by decide); have e2 := i32ne h15 (k := 43) (by decide); have e3 := i32ne h16 (k := 45) (by decide); have e4 := i32ne h17 (k := 47) (by decide); have e5 := i32ne h18 (k := 60) (by decide); have e6 := i32ne h19 (k := 61) (by decide); have e7 := i32ne h20 (k := 62) (by decide); have e8 := i32ne h21 (k := 316) (by decide); have e9 := i32ne h22 (k := 318) (by decide); simp [Op.lookupswitch.offset, e0, Ne.symm e0, e1, Ne.symm e1, e2, Ne.symm e2, e3, Ne.symm e3, e4, Ne.symm e4, e5, Ne.symm e5, e6, Ne.symm e6, e7, Ne.symm e7, e8, Ne.symm e8, e9, Ne.symm e9]) (by decide) ?_
                        refine g_iconst (w := (-1 : Int32)) hX (dc_X7_operationOfSign 31 rfl) (by decide) ?_
                        exact g_iret hX (dc_X7_operationOfSign 32 rfl) rfl rfl (Nat.le_refl _) (Nat.le_refl _)
  · refine g_iconst (w := (-1 : Int32)) hX (dc_X7_operationOfSign 5 rfl) (by decide) ?_
    exact g_iret hX (dc_X7_operationOfSign 6 rfl) rfl rfl (Nat.le_refl _) (Nat.le_refl _)
def f_X7_operationOfSign  (σ : MS) : Option (Int32) := b_X7_operationOfSign_0   σ
theorem con_X7_operationOfSign {Ω : OM} (hO : OKO Ω) (hΩ : oSH Ω = SHX)  (σ : MS)  : Con Ω yX7_operationOfSign cX7_operationOfSign 1 (some .int) rm_X7_operationOfSign (emPI σ) [.ref 17] σ (f_X7_operationOfSign  σ) :=
  con_of hO (by decide +kernel) (Nat.le_of_ble_eq_true rfl) rfl (fun X hX _ => c_X7_operationOfSign_0 hX hO hΩ   σ )
def it_X7_isOfSums : List (Nat × Instr × Nat × Nat) := [(0, .iload_n 0, 1, 1), (1, .iconst (-1), 1, 2), (2, .if_icmp .eq 16, 3, 5), (5, .getstatic 115, 3, 8), (8, .iload_n 0, 1, 9), (9, .iaload, 1, 10), (10, .iconst 5, 1, 11), (11, .if_icmp .lt 7, 3, 14), (14, .iconst 1, 1, 15), (15, .goto 4, 3, 18), (18, .iconst 0, 1, 19), (19, .ireturn, 1, 20)]
theorem id_X7_isOfSums : ∀ q ∈ it_X7_isOfSums, decode cX7_isOfSums q.1 = .ok (q.2.1, q.2.2.1) ∧ q.1 + q.2.2.1 = q.2.2.2 := by decide +kernel
theorem dc_X7_isOfSums {pc : Nat} {i : Instr} {n pc' : Nat} (j : Nat) (h : it_X7_isOfSums[j]? = some (pc, i, n, pc')) : Dc cX7_isOfSums pc i n pc' := dc_of id_X7_isOfSums j h
abbrev rm_X7_isOfSums : Room := { frames := 0, cells := 0, slots := 0, locals := 0 }
def b_X7_isOfSums_19    (s0 : Int32) (σ : MS) : Option (Int32) := chk (s0 = 0 ∨ s0 = 1) (some s0)
set_option maxHeartbeats 4000000 in
set_option maxRecDepth 20000 in
theorem c_X7_isOfSums_19 {X : CX} {Ω : OM} (hX : CF X Ω RX7 cX7_isOfSums 1 (some .boolean) rm_X7_isOfSums) (hO : OKO Ω) (hΩ : oSH Ω = SHX)   (σ : MS)   (s0 : Int32)   : GE X Ω 1 0 0 (emPI σ) 0 0 19 [] [.int s0] σ (b_X7_isOfSums_19  s0 σ) := by
  unfold b_X7_isOfSums_19
  refine g_chk (fun hc5 => ?_)
  exact g_iret hX (dc_X7_isOfSums 11 rfl) (nz_bool hc5).1 rfl (Nat.le_refl _) (Nat.le_refl _)
def b_X7_isOfSums_18     (σ : MS) : Option (Int32) := (b_X7_isOfSums_19 ((0 : Int32)) σ)
set_option maxHeartbeats 4000000 in
set_option maxRecDepth 20000 in
theorem c_X7_isOfSums_18 {X : CX} {Ω : OM} (hX : CF X Ω RX7 cX7_isOfSums 1 (some .boolean) rm_X7_isOfSums) (hO : OKO Ω) (hΩ : oSH Ω = SHX)   (σ : MS)      : GE X Ω 1 0 0 (emPI σ) 0 0 18 [] [] σ (b_X7_isOfSums_18  σ) := by
  unfold b_X7_isOfSums_18
  refine g_iconst (w := (0 : Int32)) hX (dc_X7_isOfSums 10 rfl) (by decide) ?_
  exact g_sub [] rfl (c_X7_isOfSums_19 hX hO hΩ σ ((0 : Int32)))
def b_X7_isOfSums_0   (x0 : Int32)  (σ : MS) : Option (Int32) := (if x0 = (-1 : Int32) then (b_X7_isOfSums_18 σ) else chk (inb x0 16) ((if (levT.getD (ix x0) 0) < (5 : Int32) then (b_X7_isOfSums_18 σ) else (b_X7_isOfSums_19 ((1 : Int32)) σ))))
set_option maxHeartbeats 4000000 in
set_option maxRecDepth 20000 in
theorem c_X7_isOfSums_0 {X : CX} {Ω : OM} (hX : CF X Ω RX7 cX7_isOfSums 1 (some .boolean) rm_X7_isOfSums) (hO : OKO Ω) (hΩ : oSH Ω = SHX)   (σ : MS)  (x0 : Int32)    : GE X Ω 1 0 0 (emPI σ) 0 0 0 [(0, .int x0)] [] σ (b_X7_isOfSums_0  x0 σ) := by
  unfold b_X7_isOfSums_0
  refine g_iload_n hX (dc_X7_isOfSums 0 rfl) rfl 0 rfl ?_
  refine g_iconst (w := (-1 : Int32)) hX (dc_X7_isOfSums 1 rfl) (by decide) ?_
  refine g_icmp_eq (tgt := 18) hX (dc_X7_isOfSums 2 rfl) (by decide) (fun h6 => ?_) (fun h6 => ?_)
  · exact g_sub [] rfl (c_X7_isOfSums_18 hX hO hΩ σ)
  · refine g_getLev hX (dc_X7_isOfSums 3 rfl) wv_lev ?_
    refine g_iload_n hX (dc_X7_isOfSums 4 rfl) rfl 0 rfl ?_
    refine g_chk (fun hc7 => ?_)
    refine g_lev hX (dc_X7_isOfSums 5 rfl) hc7 ?_
    refine g_iconst (w := (5 : Int32)) hX (dc_X7_isOfSums 6 rfl) (by decide) ?_
    refine g_icmp_lt (tgt := 18) hX (dc_X7_isOfSums 7 rfl) (by decide) (fun h8 => ?_) (fun h8 => ?_)
    · exact g_sub [] rfl (c_X7_isOfSums_18 hX hO hΩ σ)
    · refine g_iconst (w := (1 : Int32)) hX (dc_X7_isOfSums 8 rfl) (by decide) ?_
      refine g_goto (tgt := 19) hX (dc_X7_isOfSums 9 rfl) (by decide) ?_
      exact g_sub [] rfl (c_X7_isOfSums_19 hX hO hΩ σ ((1 : Int32)))
def f_X7_isOfSums (x0 : Int32) (σ : MS) : Option (Int32) := b_X7_isOfSums_0  x0 σ
theorem con_X7_isOfSums {Ω : OM} (hO : OKO Ω) (hΩ : oSH Ω = SHX) (x0 : Int32) (σ : MS)  : Con Ω yX7_isOfSums cX7_isOfSums 1 (some .boolean) rm_X7_isOfSums (emPI σ) [.int x0] σ (f_X7_isOfSums x0 σ) :=
  con_of hO (by decide +kernel) (Nat.le_of_ble_eq_true rfl) rfl (fun X hX _ => c_X7_isOfSums_0 hX hO hΩ   σ x0)
def it_X7_endsFact : List (Nat × Instr × Nat × Nat) := [(0, .aload_n 0, 1, 1), (1, .getfield 75, 3, 4), (4, .iconst 2, 1, 5), (5, .if_icmp .ne 17, 3, 8), (8, .aload_n 0, 1, 9), (9, .invokevirtual 118, 3, 12), (12, .invokestatic 122, 3, 15), (15, .ifCond .ne 7, 3, 18), (18, .iconst 1, 1, 19), (19, .goto 4, 3, 22), (22, .iconst 0, 1, 23), (23, .ireturn, 1, 24)]
theorem id_X7_endsFact : ∀ q ∈ it_X7_endsFact, decode cX7_endsFact q.1 = .ok (q.2.1, q.2.2.1) ∧ q.1 + q.2.2.1 = q.2.2.2 := by decide +kernel
theorem dc_X7_endsFact {pc : Nat} {i : Instr} {n pc' : Nat} (j : Nat) (h : it_X7_endsFact[j]? = some (pc, i, n, pc')) : Dc cX7_endsFact pc i n pc' := dc_of id_X7_endsFact j h
abbrev rm_X7_endsFact : Room := { frames := 1, cells := 0, slots := 0, locals := 20 }
def b_X7_endsFact_23    (s0 : Int32) (σ : MS) : Option (Int32) := chk (s0 = 0 ∨ s0 = 1) (some s0)
set_option maxHeartbeats 4000000 in
set_option maxRecDepth 20000 in
theorem c_X7_endsFact_23 {X : CX} {Ω : OM} (hX : CF X Ω RX7 cX7_endsFact 1 (some .boolean) rm_X7_endsFact) (hO : OKO Ω) (hΩ : oSH Ω = SHX)   (σ : MS)   (s0 : Int32)   : GE X Ω 1 0 0 (emPI σ) 0 0 23 [] [.int s0] σ (b_X7_endsFact_23  s0 σ) := by
  unfold b_X7_endsFact_23
  refine g_chk (fun hc6 => ?_)
  exact g_iret hX (dc_X7_endsFact 11 rfl) (nz_bool hc6).1 rfl (Nat.le_refl _) (Nat.le_refl _)
def b_X7_endsFact_22     (σ : MS) : Option (Int32) := (b_X7_endsFact_23 ((0 : Int32)) σ)
set_option maxHeartbeats 4000000 in
set_option maxRecDepth 20000 in
theorem c_X7_endsFact_22 {X : CX} {Ω : OM} (hX : CF X Ω RX7 cX7_endsFact 1 (some .boolean) rm_X7_endsFact) (hO : OKO Ω) (hΩ : oSH Ω = SHX)   (σ : MS)      : GE X Ω 1 0 0 (emPI σ) 0 0 22 [] [] σ (b_X7_endsFact_22  σ) := by
  unfold b_X7_endsFact_22
  refine g_iconst (w := (0 : Int32)) hX (dc_X7_endsFact 10 rfl) (by decide) ?_
  exact g_sub [] rfl (c_X7_endsFact_23 hX hO hΩ σ ((0 : Int32)))
def b_X7_endsFact_0     (σ : MS) : Option (Int32) := (if (sI σ 17 4) = (2 : Int32) then (f_X7_operationOfSign σ).bind (fun r8 => (f_X7_isOfSums r8 σ).bind (fun r9 => (if r9 = 0 then (b_X7_endsFact_23 ((1 : Int32)) σ) else (b_X7_endsFact_22 σ)))) else (b_X7_endsFact_22 σ))
set_option maxHeartbeats 4000000 in
set_option maxRecDepth 20000 in
theorem c_X7_endsFact_0 {X : CX} {Ω : OM} (hX : CF X Ω RX7 cX7_endsFact 1 (some .boolean) rm_X7_endsFact) (hO : OKO Ω) (hΩ : oSH Ω = SHX)   (σ : MS)      : GE X Ω 1 0 0 (emPI σ) 0 0 0 [(0, .ref 17)] [] σ (b_X7_endsFact_0  σ) := by
  unfold b_X7_endsFact_0
  refine g_aload_n hX (dc_X7_endsFact 0 rfl) rfl 0 rfl ?_
  refine g_getI hX (dc_X7_endsFact 1 rfl) fl_X7_75 (by decide) rfl (stS hΩ 17 rfl) ?_
  refine g_iconst (w := (2 : Int32)) hX (dc_X7_endsFact 2 rfl) (by decide) ?_
  refine g_icmp_ne (tgt := 22) hX (dc_X7_endsFact 3 rfl) (by decide) (fun h7 => ?_) (fun h7 => ?_)
  · refine g_aload_n hX (dc_X7_endsFact 4 rfl) rfl 0 rfl ?_
    refine gV_PI (As := []) (st := []) hX (dc_X7_endsFact 5 rfl) ml_X7_118 (con_X7_operationOfSign hO hΩ σ) (stS hΩ 17 rfl) rfl rfl ⟨by decide, by decide⟩ ⟨rfl, rfl⟩ ⟨Nat.zero_le _, Nat.zero_le _⟩ (Nat.le_of_ble_eq_true rfl) (fun r8 _ => ?_)
    refine gS_PI (As := [.int r8]) (st := []) hX (dc_X7_endsFact 6 rfl) ml_X7_122 (con_X7_isOfSums hO hΩ r8 σ) rfl rfl ⟨by decide, by decide⟩ ⟨rfl, rfl⟩ ⟨Nat.zero_le _, Nat.zero_le _⟩ (Nat.le_of_ble_eq_true rfl) (fun r9 _ => ?_)
    refine g_if_ne (tgt := 22) hX (dc_X7_endsFact 7 rfl) (by decide) (fun h10 => ?_) (fun h10 => ?_)
    · refine g_iconst (w := (1 : Int32)) hX (dc_X7_endsFact 8 rfl) (by decide) ?_
      refine g_goto (tgt := 23) hX (dc_X7_endsFact 9 rfl) (by decide) ?_
      exact g_sub [] rfl (c_X7_endsFact_23 hX hO hΩ σ ((1 : Int32)))
    · exact g_sub [] rfl (c_X7_endsFact_22 hX hO hΩ σ)
  · exact g_sub [] rfl (c_X7_endsFact_22 hX hO hΩ σ)
def f_X7_endsFact  (σ : MS) : Option (Int32) := b_X7_endsFact_0   σ
theorem con_X7_endsFact {Ω : OM} (hO : OKO Ω) (hΩ : oSH Ω = SHX)  (σ : MS)  : Con Ω yX7_endsFact cX7_endsFact 1 (some .boolean) rm_X7_endsFact (emPI σ) [.ref 17] σ (f_X7_endsFact  σ) :=
  con_of hO (by decide +kernel) (Nat.le_of_ble_eq_true rfl) rfl (fun X hX _ => c_X7_endsFact_0 hX hO hΩ   σ )
def it_X7_opensDeeper : List (Nat × Instr × Nat × Nat) := [(0, .aload_n 0, 1, 1), (1, .getfield 27, 3, 4), (4, .bipush 91, 2, 6), (6, .invokevirtual 108, 3, 9), (9, .ifCond .ne 16, 3, 12), (12, .aload_n 0, 1, 13), (13, .getfield 27, 3, 16), (16, .ldc 57, 2, 18), (18, .invokevirtual 59, 3, 21), (21, .iconst 4, 1, 22), (22, .if_icmp .ne 7, 3, 25), (25, .iconst 1, 1, 26), (26, .goto 4, 3, 29), (29, .iconst 0, 1, 30), (30, .ireturn, 1, 31)]
theorem id_X7_opensDeeper : ∀ q ∈ it_X7_opensDeeper, decode cX7_opensDeeper q.1 = .ok (q.2.1, q.2.2.1) ∧ q.1 + q.2.2.1 = q.2.2.2 := by decide +kernel
theorem dc_X7_opensDeeper {pc : Nat} {i : Instr} {n pc' : Nat} (j : Nat) (h : it_X7_opensDeeper[j]? = some (pc, i, n, pc')) : Dc cX7_opensDeeper pc i n pc' := dc_of id_X7_opensDeeper j h
abbrev rm_X7_opensDeeper : Room := { frames := 6, cells := 0, slots := 0, locals := 133 }
def b_X7_opensDeeper_30    (s0 : Int32) (σ : MS) : Option (Int32) := chk (s0 = 0 ∨ s0 = 1) (some s0)
set_option maxHeartbeats 4000000 in
set_option maxRecDepth 20000 in
theorem c_X7_opensDeeper_30 {X : CX} {Ω : OM} (hX : CF X Ω RX7 cX7_opensDeeper 1 (some .boolean) rm_X7_opensDeeper) (hO : OKO Ω) (hΩ : oSH Ω = SHX)   (σ : MS)   (s0 : Int32)   : GE X Ω 1 0 0 (emPI σ) 0 0 30 [] [.int s0] σ (b_X7_opensDeeper_30  s0 σ) := by
  unfold b_X7_opensDeeper_30
  refine g_chk (fun hc6 => ?_)
  exact g_iret hX (dc_X7_opensDeeper 14 rfl) (nz_bool hc6).1 rfl (Nat.le_refl _) (Nat.le_refl _)
def b_X7_opensDeeper_25     (σ : MS) : Option (Int32) := (b_X7_opensDeeper_30 ((1 : Int32)) σ)
set_option maxHeartbeats 4000000 in
set_option maxRecDepth 20000 in
theorem c_X7_opensDeeper_25 {X : CX} {Ω : OM} (hX : CF X Ω RX7 cX7_opensDeeper 1 (some .boolean) rm_X7_opensDeeper) (hO : OKO Ω) (hΩ : oSH Ω = SHX)   (σ : MS)      : GE X Ω 1 0 0 (emPI σ) 0 0 25 [] [] σ (b_X7_opensDeeper_25  σ) := by
  unfold b_X7_opensDeeper_25
  refine g_iconst (w := (1 : Int32)) hX (dc_X7_opensDeeper 11 rfl) (by decide) ?_
  refine g_goto (tgt := 30) hX (dc_X7_opensDeeper 12 rfl) (by decide) ?_
  exact g_sub [] rfl (c_X7_opensDeeper_30 hX hO hΩ σ ((1 : Int32)))
def b_X7_opensDeeper_0     (σ : MS) : Option (Int32) := (f_X4_isSign 20 (91 : Int32) σ).bind (fun r7 => (if r7 = 0 then (f_X4_wordAmong 20 1 σ).bind (fun r9 => (if r9 = (4 : Int32) then (b_X7_opensDeeper_25 σ) else (b_X7_opensDeeper_30 ((0 : Int32)) σ))) else (b_X7_opensDeeper_25 σ)))
set_option maxHeartbeats 4000000 in
set_option maxRecDepth 20000 in
theorem c_X7_opensDeeper_0 {X : CX} {Ω : OM} (hX : CF X Ω RX7 cX7_opensDeeper 1 (some .boolean) rm_X7_opensDeeper) (hO : OKO Ω) (hΩ : oSH Ω = SHX)   (σ : MS)      : GE X Ω 1 0 0 (emPI σ) 0 0 0 [(0, .ref 17)] [] σ (b_X7_opensDeeper_0  σ) := by
  unfold b_X7_opensDeeper_0
  refine g_aload_n hX (dc_X7_opensDeeper 0 rfl) rfl 0 rfl ?_
  refine g_getF (q := 20) hX (dc_X7_opensDeeper 1 rfl) fl_X7_27 (by decide) rfl (stS hΩ 17 rfl) rfl ?_
  refine g_bipush (w := (91 : Int32)) hX (dc_X7_opensDeeper 2 rfl) (by decide) ?_
  refine gV_PI (As := [.int (91 : Int32)]) (st := []) hX (dc_X7_opensDeeper 3 rfl) ml_X7_108 (con_X4_isSign hO hΩ 20 (91 : Int32) σ (stR hΩ 20 (by decide))) (stS hΩ 20 rfl) rfl rfl ⟨by decide, by decide⟩ ⟨rfl, rfl⟩ ⟨Nat.zero_le _, Nat.zero_le _⟩ (Nat.le_of_ble_eq_true rfl) (fun r7 _ => ?_)
  refine g_if_ne (tgt := 25) hX (dc_X7_opensDeeper 4 rfl) (by decide) (fun h8 => ?_) (fun h8 => ?_)
  · refine g_aload_n hX (dc_X7_opensDeeper 5 rfl) rfl 0 rfl ?_
    refine g_getF (q := 20) hX (dc_X7_opensDeeper 6 rfl) fl_X7_27 (by decide) rfl (stS hΩ 17 rfl) rfl ?_
    refine g_ldcS (i := 1) hX (dc_X7_opensDeeper 7 rfl) (by decide) rfl ?_
    refine gV_PI (As := [.ref (1000000 + 1)]) (st := []) hX (dc_X7_opensDeeper 8 rfl) ml_X7_59 (con_X4_wordAmong hO hΩ 20 1 σ (stR hΩ 20 (by decide)) (by decide)) (stS hΩ 20 rfl) rfl rfl ⟨by decide, by decide⟩ ⟨rfl, rfl⟩ ⟨Nat.zero_le _, Nat.zero_le _⟩ (Nat.le_of_ble_eq_true rfl) (fun r9 _ => ?_)
    refine g_iconst (w := (4 : Int32)) hX (dc_X7_opensDeeper 9 rfl) (by decide) ?_
    refine g_icmp_ne (tgt := 29) hX (dc_X7_opensDeeper 10 rfl) (by decide) (fun h10 => ?_) (fun h10 => ?_)
    · exact g_sub [] rfl (c_X7_opensDeeper_25 hX hO hΩ σ)
    · refine g_iconst (w := (0 : Int32)) hX (dc_X7_opensDeeper 13 rfl) (by decide) ?_
      exact g_sub [] rfl (c_X7_opensDeeper_30 hX hO hΩ σ ((0 : Int32)))
  · exact g_sub [] rfl (c_X7_opensDeeper_25 hX hO hΩ σ)
def f_X7_opensDeeper  (σ : MS) : Option (Int32) := b_X7_opensDeeper_0   σ
theorem con_X7_opensDeeper {Ω : OM} (hO : OKO Ω) (hΩ : oSH Ω = SHX)  (σ : MS)  : Con Ω yX7_opensDeeper cX7_opensDeeper 1 (some .boolean) rm_X7_opensDeeper (emPI σ) [.ref 17] σ (f_X7_opensDeeper  σ) :=
  con_of hO (by decide +kernel) (Nat.le_of_ble_eq_true rfl) rfl (fun X hX _ => c_X7_opensDeeper_0 hX hO hΩ   σ )
def it_X7_countValue : List (Nat × Instr × Nat × Nat) := [(0, .aload_n 0, 1, 1), (1, .getfield 38, 3, 4), (4, .bipush 60, 2, 6), (6, .if_icmp .lt 11, 3, 9), (9, .aload_n 0, 1, 10), (10, .getfield 27, 3, 13), (13, .iconst 3, 1, 14), (14, .invokevirtual 63, 3, 17), (17, .aload_n 0, 1, 18), (18, .dup, 1, 19), (19, .getfield 38, 3, 22), (22, .iconst 1, 1, 23), (23, .iadd, 1, 24), (24, .putfield 38, 3, 27), (27, .return_, 1, 28)]
theorem id_X7_countValue : ∀ q ∈ it_X7_countValue, decode cX7_countValue q.1 = .ok (q.2.1, q.2.2.1) ∧ q.1 + q.2.2.1 = q.2.2.2 := by decide +kernel
theorem dc_X7_countValue {pc : Nat} {i : Instr} {n pc' : Nat} (j : Nat) (h : it_X7_countValue[j]? = some (pc, i, n, pc')) : Dc cX7_countValue pc i n pc' := dc_of id_X7_countValue j h
abbrev rm_X7_countValue : Room := { frames := 1, cells := 0, slots := 0, locals := 21 }
def b_X7_countValue_17     (σ : MS) : Option (MS) := some ((wI σ 17 6 ((sI σ 17 6) + (1 : Int32))))
set_option maxHeartbeats 4000000 in
set_option maxRecDepth 20000 in
theorem c_X7_countValue_17 {X : CX} {Ω : OM} (hX : CF X Ω RX7 cX7_countValue 1 none rm_X7_countValue) (hO : OKO Ω) (hΩ : oSH Ω = SHX)      (σ : MS)  : GE X Ω 1 0 0 (emWV) 0 0 17 [(0, .ref 17)] [] σ (b_X7_countValue_17  σ) := by
  unfold b_X7_countValue_17
  refine g_aload_n hX (dc_X7_countValue 8 rfl) rfl 0 rfl ?_
  refine g_dup hX (dc_X7_countValue 9 rfl) rfl ?_
  refine g_getI hX (dc_X7_countValue 10 rfl) fl_X7_38 (by decide) rfl (stS hΩ 17 rfl) ?_
  refine g_iconst (w := (1 : Int32)) hX (dc_X7_countValue 11 rfl) (by decide) ?_
  refine g_iadd hX (dc_X7_countValue 12 rfl) ?_
  refine g_putI (raw := false) hX (dc_X7_countValue 13 rfl) fl_X7_38 (by decide) ⟨rfl, rfl⟩ ⟨rfl, rfl⟩ (stS hΩ 17 rfl) ?_
  exact g_vret hX (dc_X7_countValue 14 rfl) rfl (Nat.le_refl _) (Nat.le_refl _)
def b_X7_countValue_0     (σ : MS) : Option (MS) := (if (sI σ 17 6) < (60 : Int32) then (b_X7_countValue_17 σ) else (f_X4_fail 20 (3 : Int32) σ).bind (fun r4 => (b_X7_countValue_17 r4)))
set_option maxHeartbeats 4000000 in
set_option maxRecDepth 20000 in
theorem c_X7_countValue_0 {X : CX} {Ω : OM} (hX : CF X Ω RX7 cX7_countValue 1 none rm_X7_countValue) (hO : OKO Ω) (hΩ : oSH Ω = SHX)      (σ : MS)  : GE X Ω 1 0 0 (emWV) 0 0 0 [(0, .ref 17)] [] σ (b_X7_countValue_0  σ) := by
  unfold b_X7_countValue_0
  refine g_aload_n hX (dc_X7_countValue 0 rfl) rfl 0 rfl ?_
  refine g_getI hX (dc_X7_countValue 1 rfl) fl_X7_38 (by decide) rfl (stS hΩ 17 rfl) ?_
  refine g_bipush (w := (60 : Int32)) hX (dc_X7_countValue 2 rfl) (by decide) ?_
  refine g_icmp_lt (tgt := 17) hX (dc_X7_countValue 3 rfl) (by decide) (fun h3 => ?_) (fun h3 => ?_)
  · exact g_sub [0] rfl (c_X7_countValue_17 hX hO hΩ σ)
  · refine g_aload_n hX (dc_X7_countValue 4 rfl) rfl 0 rfl ?_
    refine g_getF (q := 20) hX (dc_X7_countValue 5 rfl) fl_X7_27 (by decide) rfl (stS hΩ 17 rfl) rfl ?_
    refine g_iconst (w := (3 : Int32)) hX (dc_X7_countValue 6 rfl) (by decide) ?_
    refine gV_WV (As := [.int (3 : Int32)]) (st := []) hX (dc_X7_countValue 7 rfl) ml_X7_63 (con_X4_fail hO hΩ 20 (3 : Int32) σ (stR hΩ 20 (by decide))) (stS hΩ 20 rfl) rfl rfl ⟨by decide, by decide⟩ ⟨rfl, rfl⟩ ⟨Nat.zero_le _, Nat.zero_le _⟩ (Nat.le_of_ble_eq_true rfl) (fun r4 _ => ?_)
    exact g_sub [0] rfl (c_X7_countValue_17 hX hO hΩ r4)
def f_X7_countValue  (σ : MS) : Option (MS) := b_X7_countValue_0   σ
theorem con_X7_countValue {Ω : OM} (hO : OKO Ω) (hΩ : oSH Ω = SHX)  (σ : MS)  : Con Ω yX7_countValue cX7_countValue 1 none rm_X7_countValue (emWV) [.ref 17] σ (f_X7_countValue  σ) :=
  con_of hO (by decide +kernel) (Nat.le_of_ble_eq_true rfl) rfl (fun X hX _ => c_X7_countValue_0 hX hO hΩ    σ )
def it_X7_emit : List (Nat × Instr × Nat × Nat) := [(0, .aload_n 0, 1, 1), (1, .getfield 34, 3, 4), (4, .aload_n 0, 1, 5), (5, .getfield 19, 3, 8), (8, .arraylength, 1, 9), (9, .if_icmp .ge 23, 3, 12), (12, .aload_n 0, 1, 13), (13, .getfield 19, 3, 16), (16, .aload_n 0, 1, 17), (17, .getfield 34, 3, 20), (20, .iload_n 1, 1, 21), (21, .iastore, 1, 22), (22, .aload_n 0, 1, 23), (23, .dup, 1, 24), (24, .getfield 34, 3, 27), (27, .iconst 1, 1, 28), (28, .iadd, 1, 29), (29, .putfield 34, 3, 32), (32, .return_, 1, 33)]
theorem id_X7_emit : ∀ q ∈ it_X7_emit, decode cX7_emit q.1 = .ok (q.2.1, q.2.2.1) ∧ q.1 + q.2.2.1 = q.2.2.2 := by decide +kernel
theorem dc_X7_emit {pc : Nat} {i : Instr} {n pc' : Nat} (j : Nat) (h : it_X7_emit[j]? = some (pc, i, n, pc')) : Dc cX7_emit pc i n pc' := dc_of id_X7_emit j h
abbrev rm_X7_emit : Room := { frames := 0, cells := 0, slots := 0, locals := 0 }
def b_X7_emit_32     (σ : MS) : Option (MS) := some (σ)
set_option maxHeartbeats 4000000 in
set_option maxRecDepth 20000 in
theorem c_X7_emit_32 {X : CX} {Ω : OM} (hX : CF X Ω RX7 cX7_emit 2 none rm_X7_emit) (hO : OKO Ω) (hΩ : oSH Ω = SHX)      (σ : MS)  : GE X Ω 2 0 0 (emWV) 0 0 32 [] [] σ (b_X7_emit_32  σ) := by
  unfold b_X7_emit_32
  exact g_vret hX (dc_X7_emit 18 rfl) rfl (Nat.le_refl _) (Nat.le_refl _)
def b_X7_emit_0   (x1 : Int32)  (σ : MS) : Option (MS) := (if (401 : Int32) ≤ (sI σ 17 8) then (b_X7_emit_32 σ) else chk (inb (sI σ 17 8) 401) ((b_X7_emit_32 (wI (wI σ 19 (ix (sI σ 17 8)) x1) 17 8 ((sI (wI σ 19 (ix (sI σ 17 8)) x1) 17 8) + (1 : Int32))))))
set_option maxHeartbeats 4000000 in
set_option maxRecDepth 20000 in
theorem c_X7_emit_0 {X : CX} {Ω : OM} (hX : CF X Ω RX7 cX7_emit 2 none rm_X7_emit) (hO : OKO Ω) (hΩ : oSH Ω = SHX)    (x1 : Int32)  (σ : MS)  : GE X Ω 2 0 0 (emWV) 0 0 0 [(0, .ref 17), (1, .int x1)] [] σ (b_X7_emit_0  x1 σ) := by
  unfold b_X7_emit_0
  refine g_aload_n hX (dc_X7_emit 0 rfl) rfl 0 rfl ?_
  refine g_getI hX (dc_X7_emit 1 rfl) fl_X7_34 (by decide) rfl (stS hΩ 17 rfl) ?_
  refine g_aload_n hX (dc_X7_emit 2 rfl) rfl 0 rfl ?_
  refine g_getF (q := 19) hX (dc_X7_emit 3 rfl) fl_X7_19 (by decide) rfl (stS hΩ 17 rfl) rfl ?_
  refine g_alen (w := (401 : Int32)) hX (dc_X7_emit 4 rfl) (stS hΩ 19 rfl) (by decide) rfl ?_
  refine g_icmp_ge (tgt := 32) hX (dc_X7_emit 5 rfl) (by decide) (fun h3 => ?_) (fun h3 => ?_)
  · exact g_sub [] rfl (c_X7_emit_32 hX hO hΩ σ)
  · refine g_aload_n hX (dc_X7_emit 6 rfl) rfl 0 rfl ?_
    refine g_getF (q := 19) hX (dc_X7_emit 7 rfl) fl_X7_19 (by decide) rfl (stS hΩ 17 rfl) rfl ?_
    refine g_aload_n hX (dc_X7_emit 8 rfl) rfl 0 rfl ?_
    refine g_getI hX (dc_X7_emit 9 rfl) fl_X7_34 (by decide) rfl (stS hΩ 17 rfl) ?_
    refine g_iload_n hX (dc_X7_emit 10 rfl) rfl 1 rfl ?_
    refine g_chk (fun hc4 => ?_)
    refine g_iast hX (dc_X7_emit 11 rfl) (stS hΩ 19 rfl) hc4 rfl ?_
    refine g_aload_n hX (dc_X7_emit 12 rfl) rfl 0 rfl ?_
    refine g_dup hX (dc_X7_emit 13 rfl) rfl ?_
    refine g_getI hX (dc_X7_emit 14 rfl) fl_X7_34 (by decide) rfl (stS hΩ 17 rfl) ?_
    refine g_iconst (w := (1 : Int32)) hX (dc_X7_emit 15 rfl) (by decide) ?_
    refine g_iadd hX (dc_X7_emit 16 rfl) ?_
    refine g_putI (raw := false) hX (dc_X7_emit 17 rfl) fl_X7_34 (by decide) ⟨rfl, rfl⟩ ⟨rfl, rfl⟩ (stS hΩ 17 rfl) ?_
    exact g_sub [] rfl (c_X7_emit_32 hX hO hΩ (wI (wI σ 19 (ix (sI σ 17 8)) x1) 17 8 ((sI (wI σ 19 (ix (sI σ 17 8)) x1) 17 8) + (1 : Int32))))
def f_X7_emit (x1 : Int32) (σ : MS) : Option (MS) := b_X7_emit_0  x1 σ
theorem con_X7_emit {Ω : OM} (hO : OKO Ω) (hΩ : oSH Ω = SHX) (x1 : Int32) (σ : MS)  : Con Ω yX7_emit cX7_emit 2 none rm_X7_emit (emWV) [.ref 17, .int x1] σ (f_X7_emit x1 σ) :=
  con_of hO (by decide +kernel) (Nat.le_of_ble_eq_true rfl) rfl (fun X hX _ => c_X7_emit_0 hX hO hΩ   x1 σ )
def it_X7_readValue : List (Nat × Instr × Nat × Nat) := [(0, .aload_n 0, 1, 1), (1, .getfield 27, 3, 4), (4, .ldc 97, 2, 6), (6, .invokevirtual 59, 3, 9), (9, .istore_n 1, 1, 10), (10, .aload_n 0, 1, 11), (11, .getfield 27, 3, 14), (14, .getfield 51, 3, 17), (17, .iconst 1, 1, 18), (18, .if_icmp .eq 19, 3, 21), (21, .iload_n 1, 1, 22), (22, .iconst (-1), 1, 23), (23, .if_icmp .ne 14, 3, 26), (26, .aload_n 0, 1, 27), (27, .getfield 27, 3, 30), (30, .iconst 0, 1, 31), (31, .invokevirtual 63, 3, 34), (34, .goto 34, 3, 37), (37, .iload_n 1, 1, 38), (38, .iconst (-1), 1, 39), (39, .if_icmp .ne 25, 3, 42), (42, .aload_n 0, 1, 43), (43, .getfield 27, 3, 46), (46, .getfield 99, 3, 49), (49, .iconst (-1), 1, 50), (50, .if_icmp .ne 14, 3, 53), (53, .aload_n 0, 1, 54), (54, .getfield 27, 3, 57), (57, .iconst 1, 1, 58), (58, .invokevirtual 63, 3, 61), (61, .goto 7, 3, 64), (64, .aload_n 0, 1, 65), (65, .invokevirtual 102, 3, 68), (68, .aload_n 0, 1, 69), (69, .iload_n 1, 1, 70), (70, .iconst (-1), 1, 71), (71, .if_icmp .ne 17, 3, 74), (74, .aload_n 0, 1, 75), (75, .getfield 27, 3, 78), (78, .getfield 99, 3, 81), (81, .iconst 5, 1, 82), (82, .ishl, 1, 83), (83, .iconst 0, 1, 84), (84, .ior, 1, 85), (85, .goto 8, 3, 88), (88, .iload_n 1, 1, 89), (89, .iconst 5, 1, 90), (90, .ishl, 1, 91), (91, .iconst 1, 1, 92), (92, .ior, 1, 93), (93, .invokevirtual 105, 3, 96), (96, .aload_n 0, 1, 97), (97, .iconst 2, 1, 98), (98, .putfield 72, 3, 101), (101, .return_, 1, 102)]
theorem id_X7_readValue : ∀ q ∈ it_X7_readValue, decode cX7_readValue q.1 = .ok (q.2.1, q.2.2.1) ∧ q.1 + q.2.2.1 = q.2.2.2 := by decide +kernel
theorem dc_X7_readValue {pc : Nat} {i : Instr} {n pc' : Nat} (j : Nat) (h : it_X7_readValue[j]? = some (pc, i, n, pc')) : Dc cX7_readValue pc i n pc' := dc_of id_X7_readValue j h
abbrev rm_X7_readValue : Room := { frames := 6, cells := 0, slots := 0, locals := 133 }
def b_X7_readValue_93    (s0 : Int32) (σ : MS) : Option (MS) := (f_X7_emit s0 σ).bind (fun r11 => some ((wI r11 17 3 (2 : Int32))))
set_option maxHeartbeats 4000000 in
set_option maxRecDepth 20000 in
theorem c_X7_readValue_93 {X : CX} {Ω : OM} (hX : CF X Ω RX7 cX7_readValue 2 none rm_X7_readValue) (hO : OKO Ω) (hΩ : oSH Ω = SHX)     (s0 : Int32) (σ : MS)  : GE X Ω 2 0 0 (emWV) 0 0 93 [(0, .ref 17)] [.int s0, .ref 17] σ (b_X7_readValue_93  s0 σ) := by
  unfold b_X7_readValue_93
  refine gV_WV (As := [.int s0]) (st := []) hX (dc_X7_readValue 50 rfl) ml_X7_105 (con_X7_emit hO hΩ s0 σ) (stS hΩ 17 rfl) rfl rfl ⟨by decide, by decide⟩ ⟨rfl, rfl⟩ ⟨Nat.zero_le _, Nat.zero_le _⟩ (Nat.le_of_ble_eq_true rfl) (fun r11 _ => ?_)
  refine g_aload_n hX (dc_X7_readValue 51 rfl) rfl 0 rfl ?_
  refine g_iconst (w := (2 : Int32)) hX (dc_X7_readValue 52 rfl) (by decide) ?_
  refine g_putI (raw := false) hX (dc_X7_readValue 53 rfl) fl_X7_72 (by decide) ⟨rfl, rfl⟩ ⟨rfl, rfl⟩ (stS hΩ 17 rfl) ?_
  exact g_vret hX (dc_X7_readValue 54 rfl) rfl (Nat.le_refl _) (Nat.le_refl _)
def b_X7_readValue_68    (y1 : Int32) (σ : MS) : Option (MS) := (if y1 = (-1 : Int32) then (b_X7_readValue_93 ((((sI σ 20 4) <<< ((5 : Int32) &&& 31)) ||| (0 : Int32))) σ) else (b_X7_readValue_93 (((y1 <<< ((5 : Int32) &&& 31)) ||| (1 : Int32))) σ))
set_option maxHeartbeats 4000000 in
set_option maxRecDepth 20000 in
theorem c_X7_readValue_68 {X : CX} {Ω : OM} (hX : CF X Ω RX7 cX7_readValue 2 none rm_X7_readValue) (hO : OKO Ω) (hΩ : oSH Ω = SHX)     (y1 : Int32) (σ : MS)  : GE X Ω 2 0 0 (emWV) 0 0 68 [(0, .ref 17), (1, .int y1)] [] σ (b_X7_readValue_68  y1 σ) := by
  unfold b_X7_readValue_68
  refine g_aload_n hX (dc_X7_readValue 33 rfl) rfl 0 rfl ?_
  refine g_iload_n hX (dc_X7_readValue 34 rfl) rfl 1 rfl ?_
  refine g_iconst (w := (-1 : Int32)) hX (dc_X7_readValue 35 rfl) (by decide) ?_
  refine g_icmp_ne (tgt := 88) hX (dc_X7_readValue 36 rfl) (by decide) (fun h12 => ?_) (fun h12 => ?_)
  · refine g_aload_n hX (dc_X7_readValue 37 rfl) rfl 0 rfl ?_
    refine g_getF (q := 20) hX (dc_X7_readValue 38 rfl) fl_X7_27 (by decide) rfl (stS hΩ 17 rfl) rfl ?_
    refine g_getI hX (dc_X7_readValue 39 rfl) fl_X7_99 (by decide) rfl (stS hΩ 20 rfl) ?_
    refine g_iconst (w := (5 : Int32)) hX (dc_X7_readValue 40 rfl) (by decide) ?_
    refine g_ishl hX (dc_X7_readValue 41 rfl) ?_
    refine g_iconst (w := (0 : Int32)) hX (dc_X7_readValue 42 rfl) (by decide) ?_
    refine g_ior hX (dc_X7_readValue 43 rfl) ?_
    refine g_goto (tgt := 93) hX (dc_X7_readValue 44 rfl) (by decide) ?_
    exact g_sub [0] rfl (c_X7_readValue_93 hX hO hΩ ((((sI σ 20 4) <<< ((5 : Int32) &&& 31)) ||| (0 : Int32))) σ)
  · refine g_iload_n hX (dc_X7_readValue 45 rfl) rfl 1 rfl ?_
    refine g_iconst (w := (5 : Int32)) hX (dc_X7_readValue 46 rfl) (by decide) ?_
    refine g_ishl hX (dc_X7_readValue 47 rfl) ?_
    refine g_iconst (w := (1 : Int32)) hX (dc_X7_readValue 48 rfl) (by decide) ?_
    refine g_ior hX (dc_X7_readValue 49 rfl) ?_
    exact g_sub [0] rfl (c_X7_readValue_93 hX hO hΩ (((y1 <<< ((5 : Int32) &&& 31)) ||| (1 : Int32))) σ)
def b_X7_readValue_64    (y1 : Int32) (σ : MS) : Option (MS) := (f_X7_countValue σ).bind (fun r13 => (b_X7_readValue_68 (y1) r13))
set_option maxHeartbeats 4000000 in
set_option maxRecDepth 20000 in
theorem c_X7_readValue_64 {X : CX} {Ω : OM} (hX : CF X Ω RX7 cX7_readValue 2 none rm_X7_readValue) (hO : OKO Ω) (hΩ : oSH Ω = SHX)     (y1 : Int32) (σ : MS)  : GE X Ω 2 0 0 (emWV) 0 0 64 [(0, .ref 17), (1, .int y1)] [] σ (b_X7_readValue_64  y1 σ) := by
  unfold b_X7_readValue_64
  refine g_aload_n hX (dc_X7_readValue 31 rfl) rfl 0 rfl ?_
  refine gV_WV (As := []) (st := []) hX (dc_X7_readValue 32 rfl) ml_X7_102 (con_X7_countValue hO hΩ σ) (stS hΩ 17 rfl) rfl rfl ⟨by decide, by decide⟩ ⟨rfl, rfl⟩ ⟨Nat.zero_le _, Nat.zero_le _⟩ (Nat.le_of_ble_eq_true rfl) (fun r13 _ => ?_)
  exact g_sub [0, 1] rfl (c_X7_readValue_68 hX hO hΩ (y1) r13)
def b_X7_readValue_37    (y1 : Int32) (σ : MS) : Option (MS) := (if y1 = (-1 : Int32) then (if (sI σ 20 4) = (-1 : Int32) then (f_X4_fail 20 (1 : Int32) σ).bind (fun r16 => (b_X7_readValue_68 (y1) r16)) else (b_X7_readValue_64 (y1) σ)) else (b_X7_readValue_64 (y1) σ))
set_option maxHeartbeats 4000000 in
set_option maxRecDepth 20000 in
theorem c_X7_readValue_37 {X : CX} {Ω : OM} (hX : CF X Ω RX7 cX7_readValue 2 none rm_X7_readValue) (hO : OKO Ω) (hΩ : oSH Ω = SHX)     (y1 : Int32) (σ : MS)  : GE X Ω 2 0 0 (emWV) 0 0 37 [(0, .ref 17), (1, .int y1)] [] σ (b_X7_readValue_37  y1 σ) := by
  unfold b_X7_readValue_37
  refine g_iload_n hX (dc_X7_readValue 18 rfl) rfl 1 rfl ?_
  refine g_iconst (w := (-1 : Int32)) hX (dc_X7_readValue 19 rfl) (by decide) ?_
  refine g_icmp_ne (tgt := 64) hX (dc_X7_readValue 20 rfl) (by decide) (fun h14 => ?_) (fun h14 => ?_)
  · refine g_aload_n hX (dc_X7_readValue 21 rfl) rfl 0 rfl ?_
    refine g_getF (q := 20) hX (dc_X7_readValue 22 rfl) fl_X7_27 (by decide) rfl (stS hΩ 17 rfl) rfl ?_
    refine g_getI hX (dc_X7_readValue 23 rfl) fl_X7_99 (by decide) rfl (stS hΩ 20 rfl) ?_
    refine g_iconst (w := (-1 : Int32)) hX (dc_X7_readValue 24 rfl) (by decide) ?_
    refine g_icmp_ne (tgt := 64) hX (dc_X7_readValue 25 rfl) (by decide) (fun h15 => ?_) (fun h15 => ?_)
    · refine g_aload_n hX (dc_X7_readValue 26 rfl) rfl 0 rfl ?_
      refine g_getF (q := 20) hX (dc_X7_readValue 27 rfl) fl_X7_27 (by decide) rfl (stS hΩ 17 rfl) rfl ?_
      refine g_iconst (w := (1 : Int32)) hX (dc_X7_readValue 28 rfl) (by decide) ?_
      refine gV_WV (As := [.int (1 : Int32)]) (st := []) hX (dc_X7_readValue 29 rfl) ml_X7_63 (con_X4_fail hO hΩ 20 (1 : Int32) σ (stR hΩ 20 (by decide))) (stS hΩ 20 rfl) rfl rfl ⟨by decide, by decide⟩ ⟨rfl, rfl⟩ ⟨Nat.zero_le _, Nat.zero_le _⟩ (Nat.le_of_ble_eq_true rfl) (fun r16 _ => ?_)
      refine g_goto (tgt := 68) hX (dc_X7_readValue 30 rfl) (by decide) ?_
      exact g_sub [0, 1] rfl (c_X7_readValue_68 hX hO hΩ (y1) r16)
    · exact g_sub [0, 1] rfl (c_X7_readValue_64 hX hO hΩ (y1) σ)
  · exact g_sub [0, 1] rfl (c_X7_readValue_64 hX hO hΩ (y1) σ)
def b_X7_readValue_0     (σ : MS) : Option (MS) := (f_X4_wordAmong 20 2 σ).bind (fun r17 => (if (sI σ 20 2) = (1 : Int32) then (b_X7_readValue_37 (r17) σ) else (if r17 = (-1 : Int32) then (f_X4_fail 20 (0 : Int32) σ).bind (fun r20 => (b_X7_readValue_68 (r17) r20)) else (b_X7_readValue_37 (r17) σ))))
set_option maxHeartbeats 4000000 in
set_option maxRecDepth 20000 in
theorem c_X7_readValue_0 {X : CX} {Ω : OM} (hX : CF X Ω RX7 cX7_readValue 2 none rm_X7_readValue) (hO : OKO Ω) (hΩ : oSH Ω = SHX)      (σ : MS)  : GE X Ω 2 0 0 (emWV) 0 0 0 [(0, .ref 17)] [] σ (b_X7_readValue_0  σ) := by
  unfold b_X7_readValue_0
  refine g_aload_n hX (dc_X7_readValue 0 rfl) rfl 0 rfl ?_
  refine g_getF (q := 20) hX (dc_X7_readValue 1 rfl) fl_X7_27 (by decide) rfl (stS hΩ 17 rfl) rfl ?_
  refine g_ldcS (i := 2) hX (dc_X7_readValue 2 rfl) (by decide) rfl ?_
  refine gV_PI (As := [.ref (1000000 + 2)]) (st := []) hX (dc_X7_readValue 3 rfl) ml_X7_59 (con_X4_wordAmong hO hΩ 20 2 σ (stR hΩ 20 (by decide)) (by decide)) (stS hΩ 20 rfl) rfl rfl ⟨by decide, by decide⟩ ⟨rfl, rfl⟩ ⟨Nat.zero_le _, Nat.zero_le _⟩ (Nat.le_of_ble_eq_true rfl) (fun r17 _ => ?_)
  refine g_istore_n (L' := [(1, .int r17), (0, .ref 17)]) hX (dc_X7_readValue 4 rfl) rfl (by decide) rfl ?_
  refine g_aload_n hX (dc_X7_readValue 5 rfl) rfl 1 rfl ?_
  refine g_getF (q := 20) hX (dc_X7_readValue 6 rfl) fl_X7_27 (by decide) rfl (stS hΩ 17 rfl) rfl ?_
  refine g_getI hX (dc_X7_readValue 7 rfl) fl_X7_51 (by decide) rfl (stS hΩ 20 rfl) ?_
  refine g_iconst (w := (1 : Int32)) hX (dc_X7_readValue 8 rfl) (by decide) ?_
  refine g_icmp_eq (tgt := 37) hX (dc_X7_readValue 9 rfl) (by decide) (fun h18 => ?_) (fun h18 => ?_)
  · exact g_sub [1, 0] rfl (c_X7_readValue_37 hX hO hΩ (r17) σ)
  · refine g_iload_n hX (dc_X7_readValue 10 rfl) rfl 0 rfl ?_
    refine g_iconst (w := (-1 : Int32)) hX (dc_X7_readValue 11 rfl) (by decide) ?_
    refine g_icmp_ne (tgt := 37) hX (dc_X7_readValue 12 rfl) (by decide) (fun h19 => ?_) (fun h19 => ?_)
    · refine g_aload_n hX (dc_X7_readValue 13 rfl) rfl 1 rfl ?_
      refine g_getF (q := 20) hX (dc_X7_readValue 14 rfl) fl_X7_27 (by decide) rfl (stS hΩ 17 rfl) rfl ?_
      refine g_iconst (w := (0 : Int32)) hX (dc_X7_readValue 15 rfl) (by decide) ?_
      refine gV_WV (As := [.int (0 : Int32)]) (st := []) hX (dc_X7_readValue 16 rfl) ml_X7_63 (con_X4_fail hO hΩ 20 (0 : Int32) σ (stR hΩ 20 (by decide))) (stS hΩ 20 rfl) rfl rfl ⟨by decide, by decide⟩ ⟨rfl, rfl⟩ ⟨Nat.zero_le _, Nat.zero_le _⟩ (Nat.le_of_ble_eq_true rfl) (fun r20 _ => ?_)
      refine g_goto (tgt := 68) hX (dc_X7_readValue 17 rfl) (by decide) ?_
      exact g_sub [1, 0] rfl (c_X7_readValue_68 hX hO hΩ (r17) r20)
    · exact g_sub [1, 0] rfl (c_X7_readValue_37 hX hO hΩ (r17) σ)
def f_X7_readValue  (σ : MS) : Option (MS) := b_X7_readValue_0   σ
theorem con_X7_readValue {Ω : OM} (hO : OKO Ω) (hΩ : oSH Ω = SHX)  (σ : MS)  : Con Ω yX7_readValue cX7_readValue 2 none rm_X7_readValue (emWV) [.ref 17] σ (f_X7_readValue  σ) :=
  con_of hO (by decide +kernel) (Nat.le_of_ble_eq_true rfl) rfl (fun X hX _ => c_X7_readValue_0 hX hO hΩ    σ )
def it_X7_push : List (Nat × Instr × Nat × Nat) := [(0, .aload_n 0, 1, 1), (1, .getfield 66, 3, 4), (4, .aload_n 0, 1, 5), (5, .getfield 11, 3, 8), (8, .arraylength, 1, 9), (9, .if_icmp .ge 23, 3, 12), (12, .aload_n 0, 1, 13), (13, .getfield 11, 3, 16), (16, .aload_n 0, 1, 17), (17, .getfield 66, 3, 20), (20, .iload_n 1, 1, 21), (21, .iastore, 1, 22), (22, .aload_n 0, 1, 23), (23, .dup, 1, 24), (24, .getfield 66, 3, 27), (27, .iconst 1, 1, 28), (28, .iadd, 1, 29), (29, .putfield 66, 3, 32), (32, .return_, 1, 33)]
theorem id_X7_push : ∀ q ∈ it_X7_push, decode cX7_push q.1 = .ok (q.2.1, q.2.2.1) ∧ q.1 + q.2.2.1 = q.2.2.2 := by decide +kernel
theorem dc_X7_push {pc : Nat} {i : Instr} {n pc' : Nat} (j : Nat) (h : it_X7_push[j]? = some (pc, i, n, pc')) : Dc cX7_push pc i n pc' := dc_of id_X7_push j h
abbrev rm_X7_push : Room := { frames := 0, cells := 0, slots := 0, locals := 0 }
def b_X7_push_32     (σ : MS) : Option (MS) := some (σ)
set_option maxHeartbeats 4000000 in
set_option maxRecDepth 20000 in
theorem c_X7_push_32 {X : CX} {Ω : OM} (hX : CF X Ω RX7 cX7_push 2 none rm_X7_push) (hO : OKO Ω) (hΩ : oSH Ω = SHX)      (σ : MS)  : GE X Ω 2 0 0 (emWV) 0 0 32 [] [] σ (b_X7_push_32  σ) := by
  unfold b_X7_push_32
  exact g_vret hX (dc_X7_push 18 rfl) rfl (Nat.le_refl _) (Nat.le_refl _)
def b_X7_push_0   (x1 : Int32)  (σ : MS) : Option (MS) := (if (64 : Int32) ≤ (sI σ 17 2) then (b_X7_push_32 σ) else chk (inb (sI σ 17 2) 64) ((b_X7_push_32 (wI (wI σ 18 (ix (sI σ 17 2)) x1) 17 2 ((sI (wI σ 18 (ix (sI σ 17 2)) x1) 17 2) + (1 : Int32))))))
set_option maxHeartbeats 4000000 in
set_option maxRecDepth 20000 in
theorem c_X7_push_0 {X : CX} {Ω : OM} (hX : CF X Ω RX7 cX7_push 2 none rm_X7_push) (hO : OKO Ω) (hΩ : oSH Ω = SHX)    (x1 : Int32)  (σ : MS)  : GE X Ω 2 0 0 (emWV) 0 0 0 [(0, .ref 17), (1, .int x1)] [] σ (b_X7_push_0  x1 σ) := by
  unfold b_X7_push_0
  refine g_aload_n hX (dc_X7_push 0 rfl) rfl 0 rfl ?_
  refine g_getI hX (dc_X7_push 1 rfl) fl_X7_66 (by decide) rfl (stS hΩ 17 rfl) ?_
  refine g_aload_n hX (dc_X7_push 2 rfl) rfl 0 rfl ?_
  refine g_getF (q := 18) hX (dc_X7_push 3 rfl) fl_X7_11 (by decide) rfl (stS hΩ 17 rfl) rfl ?_
  refine g_alen (w := (64 : Int32)) hX (dc_X7_push 4 rfl) (stS hΩ 18 rfl) (by decide) rfl ?_
  refine g_icmp_ge (tgt := 32) hX (dc_X7_push 5 rfl) (by decide) (fun h3 => ?_) (fun h3 => ?_)
  · exact g_sub [] rfl (c_X7_push_32 hX hO hΩ σ)
  · refine g_aload_n hX (dc_X7_push 6 rfl) rfl 0 rfl ?_
    refine g_getF (q := 18) hX (dc_X7_push 7 rfl) fl_X7_11 (by decide) rfl (stS hΩ 17 rfl) rfl ?_
    refine g_aload_n hX (dc_X7_push 8 rfl) rfl 0 rfl ?_
    refine g_getI hX (dc_X7_push 9 rfl) fl_X7_66 (by decide) rfl (stS hΩ 17 rfl) ?_
    refine g_iload_n hX (dc_X7_push 10 rfl) rfl 1 rfl ?_
    refine g_chk (fun hc4 => ?_)
    refine g_iast hX (dc_X7_push 11 rfl) (stS hΩ 18 rfl) hc4 rfl ?_
    refine g_aload_n hX (dc_X7_push 12 rfl) rfl 0 rfl ?_
    refine g_dup hX (dc_X7_push 13 rfl) rfl ?_
    refine g_getI hX (dc_X7_push 14 rfl) fl_X7_66 (by decide) rfl (stS hΩ 17 rfl) ?_
    refine g_iconst (w := (1 : Int32)) hX (dc_X7_push 15 rfl) (by decide) ?_
    refine g_iadd hX (dc_X7_push 16 rfl) ?_
    refine g_putI (raw := false) hX (dc_X7_push 17 rfl) fl_X7_66 (by decide) ⟨rfl, rfl⟩ ⟨rfl, rfl⟩ (stS hΩ 17 rfl) ?_
    exact g_sub [] rfl (c_X7_push_32 hX hO hΩ (wI (wI σ 18 (ix (sI σ 17 2)) x1) 17 2 ((sI (wI σ 18 (ix (sI σ 17 2)) x1) 17 2) + (1 : Int32))))
def f_X7_push (x1 : Int32) (σ : MS) : Option (MS) := b_X7_push_0  x1 σ
theorem con_X7_push {Ω : OM} (hO : OKO Ω) (hΩ : oSH Ω = SHX) (x1 : Int32) (σ : MS)  : Con Ω yX7_push cX7_push 2 none rm_X7_push (emWV) [.ref 17, .int x1] σ (f_X7_push x1 σ) :=
  con_of hO (by decide +kernel) (Nat.le_of_ble_eq_true rfl) rfl (fun X hX _ => c_X7_push_0 hX hO hΩ   x1 σ )
def it_X7_deepen : List (Nat × Instr × Nat × Nat) := [(0, .aload_n 0, 1, 1), (1, .getfield 69, 3, 4), (4, .bipush 10, 2, 6), (6, .if_icmp .lt 11, 3, 9), (9, .aload_n 0, 1, 10), (10, .getfield 27, 3, 13), (13, .iconst 2, 1, 14), (14, .invokevirtual 63, 3, 17), (17, .aload_n 0, 1, 18), (18, .dup, 1, 19), (19, .getfield 69, 3, 22), (22, .iconst 1, 1, 23), (23, .iadd, 1, 24), (24, .putfield 69, 3, 27), (27, .aload_n 0, 1, 28), (28, .aload_n 0, 1, 29), (29, .getfield 27, 3, 32), (32, .bipush 91, 2, 34), (34, .invokevirtual 108, 3, 37), (37, .ifCond .eq 8, 3, 40), (40, .bipush 15, 2, 42), (42, .goto 5, 3, 45), (45, .bipush 12, 2, 47), (47, .invokevirtual 112, 3, 50), (50, .return_, 1, 51)]
theorem id_X7_deepen : ∀ q ∈ it_X7_deepen, decode cX7_deepen q.1 = .ok (q.2.1, q.2.2.1) ∧ q.1 + q.2.2.1 = q.2.2.2 := by decide +kernel
theorem dc_X7_deepen {pc : Nat} {i : Instr} {n pc' : Nat} (j : Nat) (h : it_X7_deepen[j]? = some (pc, i, n, pc')) : Dc cX7_deepen pc i n pc' := dc_of id_X7_deepen j h
abbrev rm_X7_deepen : Room := { frames := 1, cells := 0, slots := 0, locals := 21 }
def b_X7_deepen_47    (s0 : Int32) (σ : MS) : Option (MS) := (f_X7_push s0 σ).bind (fun r6 => some (r6))
set_option maxHeartbeats 4000000 in
set_option maxRecDepth 20000 in
theorem c_X7_deepen_47 {X : CX} {Ω : OM} (hX : CF X Ω RX7 cX7_deepen 1 none rm_X7_deepen) (hO : OKO Ω) (hΩ : oSH Ω = SHX)     (s0 : Int32) (σ : MS)  : GE X Ω 1 0 0 (emWV) 0 0 47 [] [.int s0, .ref 17] σ (b_X7_deepen_47  s0 σ) := by
  unfold b_X7_deepen_47
  refine gV_WV (As := [.int s0]) (st := []) hX (dc_X7_deepen 23 rfl) ml_X7_112 (con_X7_push hO hΩ s0 σ) (stS hΩ 17 rfl) rfl rfl ⟨by decide, by decide⟩ ⟨rfl, rfl⟩ ⟨Nat.zero_le _, Nat.zero_le _⟩ (Nat.le_of_ble_eq_true rfl) (fun r6 _ => ?_)
  exact g_vret hX (dc_X7_deepen 24 rfl) rfl (Nat.le_refl _) (Nat.le_refl _)
def b_X7_deepen_17     (σ : MS) : Option (MS) := (f_X4_isSign 20 (91 : Int32) (wI σ 17 5 ((sI σ 17 5) + (1 : Int32)))).bind (fun r7 => (if r7 = 0 then (b_X7_deepen_47 ((12 : Int32)) (wI σ 17 5 ((sI σ 17 5) + (1 : Int32)))) else (b_X7_deepen_47 ((15 : Int32)) (wI σ 17 5 ((sI σ 17 5) + (1 : Int32))))))
set_option maxHeartbeats 4000000 in
set_option maxRecDepth 20000 in
theorem c_X7_deepen_17 {X : CX} {Ω : OM} (hX : CF X Ω RX7 cX7_deepen 1 none rm_X7_deepen) (hO : OKO Ω) (hΩ : oSH Ω = SHX)      (σ : MS)  : GE X Ω 1 0 0 (emWV) 0 0 17 [(0, .ref 17)] [] σ (b_X7_deepen_17  σ) := by
  unfold b_X7_deepen_17
  refine g_aload_n hX (dc_X7_deepen 8 rfl) rfl 0 rfl ?_
  refine g_dup hX (dc_X7_deepen 9 rfl) rfl ?_
  refine g_getI hX (dc_X7_deepen 10 rfl) fl_X7_69 (by decide) rfl (stS hΩ 17 rfl) ?_
  refine g_iconst (w := (1 : Int32)) hX (dc_X7_deepen 11 rfl) (by decide) ?_
  refine g_iadd hX (dc_X7_deepen 12 rfl) ?_
  refine g_putI (raw := false) hX (dc_X7_deepen 13 rfl) fl_X7_69 (by decide) ⟨rfl, rfl⟩ ⟨rfl, rfl⟩ (stS hΩ 17 rfl) ?_
  refine g_aload_n hX (dc_X7_deepen 14 rfl) rfl 0 rfl ?_
  refine g_aload_n hX (dc_X7_deepen 15 rfl) rfl 0 rfl ?_
  refine g_getF (q := 20) hX (dc_X7_deepen 16 rfl) fl_X7_27 (by decide) rfl (stS hΩ 17 rfl) rfl ?_
  refine g_bipush (w := (91 : Int32)) hX (dc_X7_deepen 17 rfl) (by decide) ?_
  refine gV_PI (As := [.int (91 : Int32)]) (st := [.ref 17]) hX (dc_X7_deepen 18 rfl) ml_X7_108 (con_X4_isSign hO hΩ 20 (91 : Int32) (wI σ 17 5 ((sI σ 17 5) + (1 : Int32))) (stR hΩ 20 (by decide))) (stS hΩ 20 rfl) rfl rfl ⟨by decide, by decide⟩ ⟨rfl, rfl⟩ ⟨Nat.zero_le _, Nat.zero_le _⟩ (Nat.le_of_ble_eq_true rfl) (fun r7 _ => ?_)
  refine g_if_eq (tgt := 45) hX (dc_X7_deepen 19 rfl) (by decide) (fun h8 => ?_) (fun h8 => ?_)
  · refine g_bipush (w := (12 : Int32)) hX (dc_X7_deepen 22 rfl) (by decide) ?_
    exact g_sub [] rfl (c_X7_deepen_47 hX hO hΩ ((12 : Int32)) (wI σ 17 5 ((sI σ 17 5) + (1 : Int32))))
  · refine g_bipush (w := (15 : Int32)) hX (dc_X7_deepen 20 rfl) (by decide) ?_
    refine g_goto (tgt := 47) hX (dc_X7_deepen 21 rfl) (by decide) ?_
    exact g_sub [] rfl (c_X7_deepen_47 hX hO hΩ ((15 : Int32)) (wI σ 17 5 ((sI σ 17 5) + (1 : Int32))))
def b_X7_deepen_0     (σ : MS) : Option (MS) := (if (sI σ 17 5) < (10 : Int32) then (b_X7_deepen_17 σ) else (f_X4_fail 20 (2 : Int32) σ).bind (fun r10 => (b_X7_deepen_17 r10)))
set_option maxHeartbeats 4000000 in
set_option maxRecDepth 20000 in
theorem c_X7_deepen_0 {X : CX} {Ω : OM} (hX : CF X Ω RX7 cX7_deepen 1 none rm_X7_deepen) (hO : OKO Ω) (hΩ : oSH Ω = SHX)      (σ : MS)  : GE X Ω 1 0 0 (emWV) 0 0 0 [(0, .ref 17)] [] σ (b_X7_deepen_0  σ) := by
  unfold b_X7_deepen_0
  refine g_aload_n hX (dc_X7_deepen 0 rfl) rfl 0 rfl ?_
  refine g_getI hX (dc_X7_deepen 1 rfl) fl_X7_69 (by decide) rfl (stS hΩ 17 rfl) ?_
  refine g_bipush (w := (10 : Int32)) hX (dc_X7_deepen 2 rfl) (by decide) ?_
  refine g_icmp_lt (tgt := 17) hX (dc_X7_deepen 3 rfl) (by decide) (fun h9 => ?_) (fun h9 => ?_)
  · exact g_sub [0] rfl (c_X7_deepen_17 hX hO hΩ σ)
  · refine g_aload_n hX (dc_X7_deepen 4 rfl) rfl 0 rfl ?_
    refine g_getF (q := 20) hX (dc_X7_deepen 5 rfl) fl_X7_27 (by decide) rfl (stS hΩ 17 rfl) rfl ?_
    refine g_iconst (w := (2 : Int32)) hX (dc_X7_deepen 6 rfl) (by decide) ?_
    refine gV_WV (As := [.int (2 : Int32)]) (st := []) hX (dc_X7_deepen 7 rfl) ml_X7_63 (con_X4_fail hO hΩ 20 (2 : Int32) σ (stR hΩ 20 (by decide))) (stS hΩ 20 rfl) rfl rfl ⟨by decide, by decide⟩ ⟨rfl, rfl⟩ ⟨Nat.zero_le _, Nat.zero_le _⟩ (Nat.le_of_ble_eq_true rfl) (fun r10 _ => ?_)
    exact g_sub [0] rfl (c_X7_deepen_17 hX hO hΩ r10)
def f_X7_deepen  (σ : MS) : Option (MS) := b_X7_deepen_0   σ
theorem con_X7_deepen {Ω : OM} (hO : OKO Ω) (hΩ : oSH Ω = SHX)  (σ : MS)  : Con Ω yX7_deepen cX7_deepen 1 none rm_X7_deepen (emWV) [.ref 17] σ (f_X7_deepen  σ) :=
  con_of hO (by decide +kernel) (Nat.le_of_ble_eq_true rfl) rfl (fun X hX _ => c_X7_deepen_0 hX hO hΩ    σ )
def it_X7_settleDownTo : List (Nat × Instr × Nat × Nat) := [(0, .aload_n 0, 1, 1), (1, .getfield 66, 3, 4), (4, .ifCond .le 72, 3, 7), (7, .getstatic 115, 3, 10), (10, .aload_n 0, 1, 11), (11, .getfield 11, 3, 14), (14, .aload_n 0, 1, 15), (15, .getfield 66, 3, 18), (18, .iconst 1, 1, 19), (19, .isub, 1, 20), (20, .iaload, 1, 21), (21, .iaload, 1, 22), (22, .iload_n 1, 1, 23), (23, .if_icmp .lt 53, 3, 26), (26, .aload_n 0, 1, 27), (27, .dup, 1, 28), (28, .getfield 66, 3, 31), (31, .iconst 1, 1, 32), (32, .isub, 1, 33), (33, .putfield 66, 3, 36), (36, .aload_n 0, 1, 37), (37, .getfield 11, 3, 40), (40, .aload_n 0, 1, 41), (41, .getfield 66, 3, 44), (44, .iaload, 1, 45), (45, .bipush 12, 2, 47), (47, .if_icmp .ne 13, 3, 50), (50, .aload_n 0, 1, 51), (51, .dup, 1, 52), (52, .getfield 69, 3, 55), (55, .iconst 1, 1, 56), (56, .isub, 1, 57), (57, .putfield 69, 3, 60), (60, .aload_n 0, 1, 61), (61, .aload_n 0, 1, 62), (62, .getfield 11, 3, 65), (65, .aload_n 0, 1, 66), (66, .getfield 66, 3, 69), (69, .iaload, 1, 70), (70, .invokevirtual 105, 3, 73), (73, .goto (-73), 3, 76), (76, .return_, 1, 77)]
theorem id_X7_settleDownTo : ∀ q ∈ it_X7_settleDownTo, decode cX7_settleDownTo q.1 = .ok (q.2.1, q.2.2.1) ∧ q.1 + q.2.2.1 = q.2.2.2 := by decide +kernel
theorem dc_X7_settleDownTo {pc : Nat} {i : Instr} {n pc' : Nat} (j : Nat) (h : it_X7_settleDownTo[j]? = some (pc, i, n, pc')) : Dc cX7_settleDownTo pc i n pc' := dc_of id_X7_settleDownTo j h
abbrev rm_X7_settleDownTo : Room := { frames := 1, cells := 0, slots := 0, locals := 21 }
def b_X7_settleDownTo_76     (σ : MS) : Option (MS) := some (σ)
set_option maxHeartbeats 4000000 in
set_option maxRecDepth 20000 in
theorem c_X7_settleDownTo_76 {X : CX} {Ω : OM} (hX : CF X Ω RX7 cX7_settleDownTo 2 none rm_X7_settleDownTo) (hO : OKO Ω) (hΩ : oSH Ω = SHX)      (σ : MS)  : GE X Ω 2 0 0 (emWV) 0 0 76 [] [] σ (b_X7_settleDownTo_76  σ) := by
  unfold b_X7_settleDownTo_76
  exact g_vret hX (dc_X7_settleDownTo 41 rfl) rfl (Nat.le_refl _) (Nat.le_refl _)
def b_X7_settleDownTo_60  (k0 : Int32 → MS → Option (MS))  (y1 : Int32) (σ : MS) : Option (MS) := chk (inb (sI σ 17 2) 64) ((f_X7_emit (sI σ 18 (ix (sI σ 17 2))) σ).bind (fun r10 => (k0 (y1) r10)))
set_option maxHeartbeats 4000000 in
set_option maxRecDepth 20000 in
theorem c_X7_settleDownTo_60 {X : CX} {Ω : OM} (hX : CF X Ω RX7 cX7_settleDownTo 2 none rm_X7_settleDownTo) (hO : OKO Ω) (hΩ : oSH Ω = SHX)   (k0 : Int32 → MS → Option (MS)) (hk0 : ∀ (y1 : Int32) (σ : MS) , GE X Ω 2 0 0 (emWV) 0 0 0 [(0, .ref 17), (1, .int y1)] [] σ (k0 y1 σ))  (y1 : Int32) (σ : MS)  : GE X Ω 2 0 0 (emWV) 0 0 60 [(0, .ref 17), (1, .int y1)] [] σ (b_X7_settleDownTo_60  k0 y1 σ) := by
  unfold b_X7_settleDownTo_60
  refine g_aload_n hX (dc_X7_settleDownTo 33 rfl) rfl 0 rfl ?_
  refine g_aload_n hX (dc_X7_settleDownTo 34 rfl) rfl 0 rfl ?_
  refine g_getF (q := 18) hX (dc_X7_settleDownTo 35 rfl) fl_X7_11 (by decide) rfl (stS hΩ 17 rfl) rfl ?_
  refine g_aload_n hX (dc_X7_settleDownTo 36 rfl) rfl 0 rfl ?_
  refine g_getI hX (dc_X7_settleDownTo 37 rfl) fl_X7_66 (by decide) rfl (stS hΩ 17 rfl) ?_
  refine g_chk (fun hc9 => ?_)
  refine g_iald hX (dc_X7_settleDownTo 38 rfl) (stS hΩ 18 rfl) hc9 rfl ?_
  refine gV_WV (As := [.int (sI σ 18 (ix (sI σ 17 2)))]) (st := []) hX (dc_X7_settleDownTo 39 rfl) ml_X7_105 (con_X7_emit hO hΩ (sI σ 18 (ix (sI σ 17 2))) σ) (stS hΩ 17 rfl) rfl rfl ⟨by decide, by decide⟩ ⟨rfl, rfl⟩ ⟨Nat.zero_le _, Nat.zero_le _⟩ (Nat.le_of_ble_eq_true rfl) (fun r10 _ => ?_)
  refine g_goto (tgt := 0) hX (dc_X7_settleDownTo 40 rfl) (by decide) ?_
  exact g_sub [0, 1] rfl (hk0 (y1) r10 )
def b_X7_settleDownTo_0   : Nat → Int32 → MS → Option (MS)
  | 0, _, _ => none
  | n + 1, y1, σ => (if (sI σ 17 2) ≤ 0 then (b_X7_settleDownTo_76 σ) else chk (inb ((sI σ 17 2) - (1 : Int32)) 64) (chk (inb (sI σ 18 (ix ((sI σ 17 2) - (1 : Int32)))) 16) ((if (levT.getD (ix (sI σ 18 (ix ((sI σ 17 2) - (1 : Int32))))) 0) < y1 then (b_X7_settleDownTo_76 σ) else chk (inb (sI (wI σ 17 2 ((sI σ 17 2) - (1 : Int32))) 17 2) 64) ((if (sI (wI σ 17 2 ((sI σ 17 2) - (1 : Int32))) 18 (ix (sI (wI σ 17 2 ((sI σ 17 2) - (1 : Int32))) 17 2))) = (12 : Int32) then (b_X7_settleDownTo_60 (b_X7_settleDownTo_0  n) (y1) (wI (wI σ 17 2 ((sI σ 17 2) - (1 : Int32))) 17 5 ((sI (wI σ 17 2 ((sI σ 17 2) - (1 : Int32))) 17 5) - (1 : Int32)))) else (b_X7_settleDownTo_60 (b_X7_settleDownTo_0  n) (y1) (wI σ 17 2 ((sI σ 17 2) - (1 : Int32))))))))))
set_option maxHeartbeats 4000000 in
set_option maxRecDepth 20000 in
theorem c_X7_settleDownTo_0 {X : CX} {Ω : OM} (hX : CF X Ω RX7 cX7_settleDownTo 2 none rm_X7_settleDownTo) (hO : OKO Ω) (hΩ : oSH Ω = SHX)    : ∀ (n : Nat) (y1 : Int32) (σ : MS) , GE X Ω 2 0 0 (emWV) 0 0 0 [(0, .ref 17), (1, .int y1)] [] σ (b_X7_settleDownTo_0  n y1 σ)
  | 0, _, _ => g_none
  | n + 1, y1, σ => by
    have hk0 := c_X7_settleDownTo_0 hX hO hΩ  n
    unfold b_X7_settleDownTo_0
    refine g_aload_n hX (dc_X7_settleDownTo 0 rfl) rfl 0 rfl ?_
    refine g_getI hX (dc_X7_settleDownTo 1 rfl) fl_X7_66 (by decide) rfl (stS hΩ 17 rfl) ?_
    refine g_if_le (tgt := 76) hX (dc_X7_settleDownTo 2 rfl) (by decide) (fun h11 => ?_) (fun h11 => ?_)
    · exact g_sub [] rfl (c_X7_settleDownTo_76 hX hO hΩ σ)
    · refine g_getLev hX (dc_X7_settleDownTo 3 rfl) wv_lev ?_
      refine g_aload_n hX (dc_X7_settleDownTo 4 rfl) rfl 0 rfl ?_
      refine g_getF (q := 18) hX (dc_X7_settleDownTo 5 rfl) fl_X7_11 (by decide) rfl (stS hΩ 17 rfl) rfl ?_
      refine g_aload_n hX (dc_X7_settleDownTo 6 rfl) rfl 0 rfl ?_
      refine g_getI hX (dc_X7_settleDownTo 7 rfl) fl_X7_66 (by decide) rfl (stS hΩ 17 rfl) ?_
      refine g_iconst (w := (1 : Int32)) hX (dc_X7_settleDownTo 8 rfl) (by decide) ?_
      refine g_isub hX (dc_X7_settleDownTo 9 rfl) ?_
      refine g_chk (fun hc12 => ?_)
      refine g_iald hX (dc_X7_settleDownTo 10 rfl) (stS hΩ 18 rfl) hc12 rfl ?_
      refine g_chk (fun hc13 => ?_)
      refine g_lev hX (dc_X7_settleDownTo 11 rfl) hc13 ?_
      refine g_iload_n hX (dc_X7_settleDownTo 12 rfl) rfl 1 rfl ?_
      refine g_icmp_lt (tgt := 76) hX (dc_X7_settleDownTo 13 rfl) (by decide) (fun h14 => ?_) (fun h14 => ?_)
      · exact g_sub [] rfl (c_X7_settleDownTo_76 hX hO hΩ σ)
      · refine g_aload_n hX (dc_X7_settleDownTo 14 rfl) rfl 0 rfl ?_
        refine g_dup hX (dc_X7_settleDownTo 15 rfl) rfl ?_
        refine g_getI hX (dc_X7_settleDownTo 16 rfl) fl_X7_66 (by decide) rfl (stS hΩ 17 rfl) ?_
        refine g_iconst (w := (1 : Int32)) hX (dc_X7_settleDownTo 17 rfl) (by decide) ?_
        refine g_isub hX (dc_X7_settleDownTo 18 rfl) ?_
        refine g_putI (raw := false) hX (dc_X7_settleDownTo 19 rfl) fl_X7_66 (by decide) ⟨rfl, rfl⟩ ⟨rfl, rfl⟩ (stS hΩ 17 rfl) ?_
        refine g_aload_n hX (dc_X7_settleDownTo 20 rfl) rfl 0 rfl ?_
        refine g_getF (q := 18) hX (dc_X7_settleDownTo 21 rfl) fl_X7_11 (by decide) rfl (stS hΩ 17 rfl) rfl ?_
        refine g_aload_n hX (dc_X7_settleDownTo 22 rfl) rfl 0 rfl ?_
        refine g_getI hX (dc_X7_settleDownTo 23 rfl) fl_X7_66 (by decide) rfl (stS hΩ 17 rfl) ?_
        refine g_chk (fun hc15 => ?_)
        refine g_iald hX (dc_X7_settleDownTo 24 rfl) (stS hΩ 18 rfl) hc15 rfl ?_
        refine g_bipush (w := (12 : Int32)) hX (dc_X7_settleDownTo 25 rfl) (by decide) ?_
        refine g_icmp_ne (tgt := 60) hX (dc_X7_settleDownTo 26 rfl) (by decide) (fun h16 => ?_) (fun h16 => ?_)
        · refine g_aload_n hX (dc_X7_settleDownTo 27 rfl) rfl 0 rfl ?_
          refine g_dup hX (dc_X7_settleDownTo 28 rfl) rfl ?_
          refine g_getI hX (dc_X7_settleDownTo 29 rfl) fl_X7_69 (by decide) rfl (stS hΩ 17 rfl) ?_
          refine g_iconst (w := (1 : Int32)) hX (dc_X7_settleDownTo 30 rfl) (by decide) ?_
          refine g_isub hX (dc_X7_settleDownTo 31 rfl) ?_
          refine g_putI (raw := false) hX (dc_X7_settleDownTo 32 rfl) fl_X7_69 (by decide) ⟨rfl, rfl⟩ ⟨rfl, rfl⟩ (stS hΩ 17 rfl) ?_
          exact g_sub [0, 1] rfl (c_X7_settleDownTo_60 hX hO hΩ _ hk0 (y1) (wI (wI σ 17 2 ((sI σ 17 2) - (1 : Int32))) 17 5 ((sI (wI σ 17 2 ((sI σ 17 2) - (1 : Int32))) 17 5) - (1 : Int32))))
        · exact g_sub [0, 1] rfl (c_X7_settleDownTo_60 hX hO hΩ _ hk0 (y1) (wI σ 17 2 ((sI σ 17 2) - (1 : Int32))))
def f_X7_settleDownTo (x1 : Int32) (σ : MS) : Option (MS) := b_X7_settleDownTo_0  FU (x1) σ
theorem con_X7_settleDownTo {Ω : OM} (hO : OKO Ω) (hΩ : oSH Ω = SHX) (x1 : Int32) (σ : MS)  : Con Ω yX7_settleDownTo cX7_settleDownTo 2 none rm_X7_settleDownTo (emWV) [.ref 17, .int x1] σ (f_X7_settleDownTo x1 σ) :=
  con_of hO (by decide +kernel) (Nat.le_of_ble_eq_true rfl) rfl (fun X hX _ => g_sub [0, 1] rfl <| c_X7_settleDownTo_0 hX hO hΩ   FU (x1) σ )
def it_X7_compareWith : List (Nat × Instr × Nat × Nat) := [(0, .iload_n 1, 1, 1), (1, .iconst (-1), 1, 2), (2, .if_icmp .ne 12, 3, 5), (5, .aload_n 0, 1, 6), (6, .getfield 27, 3, 9), (9, .iconst 0, 1, 10), (10, .invokevirtual 63, 3, 13), (13, .return_, 1, 14), (14, .aload_n 0, 1, 15), (15, .invokevirtual 102, 3, 18), (18, .aload_n 0, 1, 19), (19, .iconst 5, 1, 20), (20, .invokevirtual 125, 3, 23), (23, .aload_n 0, 1, 24), (24, .iload_n 1, 1, 25), (25, .invokevirtual 112, 3, 28), (28, .aload_n 0, 1, 29), (29, .iconst 2, 1, 30), (30, .putfield 75, 3, 33), (33, .aload_n 0, 1, 34), (34, .iconst 0, 1, 35), (35, .putfield 72, 3, 38), (38, .return_, 1, 39)]
theorem id_X7_compareWith : ∀ q ∈ it_X7_compareWith, decode cX7_compareWith q.1 = .ok (q.2.1, q.2.2.1) ∧ q.1 + q.2.2.1 = q.2.2.2 := by decide +kernel
theorem dc_X7_compareWith {pc : Nat} {i : Instr} {n pc' : Nat} (j : Nat) (h : it_X7_compareWith[j]? = some (pc, i, n, pc')) : Dc cX7_compareWith pc i n pc' := dc_of id_X7_compareWith j h
abbrev rm_X7_compareWith : Room := { frames := 2, cells := 0, slots := 0, locals := 42 }
def b_X7_compareWith_0   (x1 : Int32)  (σ : MS) : Option (MS) := (if x1 = (-1 : Int32) then (f_X4_fail 20 (0 : Int32) σ).bind (fun r7 => some (r7)) else (f_X7_countValue σ).bind (fun r8 => (f_X7_settleDownTo (5 : Int32) r8).bind (fun r9 => (f_X7_push x1 r9).bind (fun r10 => some ((wI (wI r10 17 4 (2 : Int32)) 17 3 (0 : Int32)))))))
set_option maxHeartbeats 4000000 in
set_option maxRecDepth 20000 in
theorem c_X7_compareWith_0 {X : CX} {Ω : OM} (hX : CF X Ω RX7 cX7_compareWith 2 none rm_X7_compareWith) (hO : OKO Ω) (hΩ : oSH Ω = SHX)    (x1 : Int32)  (σ : MS)  : GE X Ω 2 0 0 (emWV) 0 0 0 [(0, .ref 17), (1, .int x1)] [] σ (b_X7_compareWith_0  x1 σ) := by
  unfold b_X7_compareWith_0
  refine g_iload_n hX (dc_X7_compareWith 0 rfl) rfl 1 rfl ?_
  refine g_iconst (w := (-1 : Int32)) hX (dc_X7_compareWith 1 rfl) (by decide) ?_
  refine g_icmp_ne (tgt := 14) hX (dc_X7_compareWith 2 rfl) (by decide) (fun h6 => ?_) (fun h6 => ?_)
  · refine g_aload_n hX (dc_X7_compareWith 3 rfl) rfl 0 rfl ?_
    refine g_getF (q := 20) hX (dc_X7_compareWith 4 rfl) fl_X7_27 (by decide) rfl (stS hΩ 17 rfl) rfl ?_
    refine g_iconst (w := (0 : Int32)) hX (dc_X7_compareWith 5 rfl) (by decide) ?_
    refine gV_WV (As := [.int (0 : Int32)]) (st := []) hX (dc_X7_compareWith 6 rfl) ml_X7_63 (con_X4_fail hO hΩ 20 (0 : Int32) σ (stR hΩ 20 (by decide))) (stS hΩ 20 rfl) rfl rfl ⟨by decide, by decide⟩ ⟨rfl, rfl⟩ ⟨Nat.zero_le _, Nat.zero_le _⟩ (Nat.le_of_ble_eq_true rfl) (fun r7 _ => ?_)
    exact g_vret hX (dc_X7_compareWith 7 rfl) rfl (Nat.le_refl _) (Nat.le_refl _)
  · refine g_aload_n hX (dc_X7_compareWith 8 rfl) rfl 0 rfl ?_
    refine gV_WV (As := []) (st := []) hX (dc_X7_compareWith 9 rfl) ml_X7_102 (con_X7_countValue hO hΩ σ) (stS hΩ 17 rfl) rfl rfl ⟨by decide, by decide⟩ ⟨rfl, rfl⟩ ⟨Nat.zero_le _, Nat.zero_le _⟩ (Nat.le_of_ble_eq_true rfl) (fun r8 _ => ?_)
    refine g_aload_n hX (dc_X7_compareWith 10 rfl) rfl 0 rfl ?_
    refine g_iconst (w := (5 : Int32)) hX (dc_X7_compareWith 11 rfl) (by decide) ?_
    refine gV_WV (As := [.int (5 : Int32)]) (st := []) hX (dc_X7_compareWith 12 rfl) ml_X7_125 (con_X7_settleDownTo hO hΩ (5 : Int32) r8) (stS hΩ 17 rfl) rfl rfl ⟨by decide, by decide⟩ ⟨rfl, rfl⟩ ⟨Nat.zero_le _, Nat.zero_le _⟩ (Nat.le_of_ble_eq_true rfl) (fun r9 _ => ?_)
    refine g_aload_n hX (dc_X7_compareWith 13 rfl) rfl 0 rfl ?_
    refine g_iload_n hX (dc_X7_compareWith 14 rfl) rfl 1 rfl ?_
    refine gV_WV (As := [.int x1]) (st := []) hX (dc_X7_compareWith 15 rfl) ml_X7_112 (con_X7_push hO hΩ x1 r9) (stS hΩ 17 rfl) rfl rfl ⟨by decide, by decide⟩ ⟨rfl, rfl⟩ ⟨Nat.zero_le _, Nat.zero_le _⟩ (Nat.le_of_ble_eq_true rfl) (fun r10 _ => ?_)
    refine g_aload_n hX (dc_X7_compareWith 16 rfl) rfl 0 rfl ?_
    refine g_iconst (w := (2 : Int32)) hX (dc_X7_compareWith 17 rfl) (by decide) ?_
    refine g_putI (raw := false) hX (dc_X7_compareWith 18 rfl) fl_X7_75 (by decide) ⟨rfl, rfl⟩ ⟨rfl, rfl⟩ (stS hΩ 17 rfl) ?_
    refine g_aload_n hX (dc_X7_compareWith 19 rfl) rfl 0 rfl ?_
    refine g_iconst (w := (0 : Int32)) hX (dc_X7_compareWith 20 rfl) (by decide) ?_
    refine g_putI (raw := false) hX (dc_X7_compareWith 21 rfl) fl_X7_72 (by decide) ⟨rfl, rfl⟩ ⟨rfl, rfl⟩ (stS hΩ 17 rfl) ?_
    exact g_vret hX (dc_X7_compareWith 22 rfl) rfl (Nat.le_refl _) (Nat.le_refl _)
def f_X7_compareWith (x1 : Int32) (σ : MS) : Option (MS) := b_X7_compareWith_0  x1 σ
theorem con_X7_compareWith {Ω : OM} (hO : OKO Ω) (hΩ : oSH Ω = SHX) (x1 : Int32) (σ : MS)  : Con Ω yX7_compareWith cX7_compareWith 2 none rm_X7_compareWith (emWV) [.ref 17, .int x1] σ (f_X7_compareWith x1 σ) :=
  con_of hO (by decide +kernel) (Nat.le_of_ble_eq_true rfl) rfl (fun X hX _ => c_X7_compareWith_0 hX hO hΩ   x1 σ )
def it_X7_endTakenSum : List (Nat × Instr × Nat × Nat) := [(0, .aload_n 0, 1, 1), (1, .iconst 5, 1, 2), (2, .invokevirtual 125, 3, 5), (5, .aload_n 0, 1, 6), (6, .getfield 27, 3, 9), (9, .invokevirtual 134, 3, 12), (12, .ifCond .eq 17, 3, 15), (15, .aload_n 0, 1, 16), (16, .bipush 16, 2, 18), (18, .invokevirtual 105, 3, 21), (21, .aload_n 0, 1, 22), (22, .iconst 4, 1, 23), (23, .putfield 72, 3, 26), (26, .goto 32, 3, 29), (29, .aload_n 0, 1, 30), (30, .getfield 27, 3, 33), (33, .ldc 57, 2, 35), (35, .invokevirtual 59, 3, 38), (38, .iconst 1, 1, 39), (39, .if_icmp .ne 11, 3, 42), (42, .aload_n 0, 1, 43), (43, .iconst 1, 1, 44), (44, .putfield 72, 3, 47), (47, .goto 11, 3, 50), (50, .aload_n 0, 1, 51), (51, .getfield 27, 3, 54), (54, .iconst 0, 1, 55), (55, .invokevirtual 63, 3, 58), (58, .return_, 1, 59)]
theorem id_X7_endTakenSum : ∀ q ∈ it_X7_endTakenSum, decode cX7_endTakenSum q.1 = .ok (q.2.1, q.2.2.1) ∧ q.1 + q.2.2.1 = q.2.2.2 := by decide +kernel
theorem dc_X7_endTakenSum {pc : Nat} {i : Instr} {n pc' : Nat} (j : Nat) (h : it_X7_endTakenSum[j]? = some (pc, i, n, pc')) : Dc cX7_endTakenSum pc i n pc' := dc_of id_X7_endTakenSum j h
abbrev rm_X7_endTakenSum : Room := { frames := 6, cells := 0, slots := 0, locals := 133 }
def b_X7_endTakenSum_58     (σ : MS) : Option (MS) := some (σ)
set_option maxHeartbeats 4000000 in
set_option maxRecDepth 20000 in
theorem c_X7_endTakenSum_58 {X : CX} {Ω : OM} (hX : CF X Ω RX7 cX7_endTakenSum 1 none rm_X7_endTakenSum) (hO : OKO Ω) (hΩ : oSH Ω = SHX)      (σ : MS)  : GE X Ω 1 0 0 (emWV) 0 0 58 [] [] σ (b_X7_endTakenSum_58  σ) := by
  unfold b_X7_endTakenSum_58
  exact g_vret hX (dc_X7_endTakenSum 28 rfl) rfl (Nat.le_refl _) (Nat.le_refl _)
def b_X7_endTakenSum_0     (σ : MS) : Option (MS) := (f_X7_settleDownTo (5 : Int32) σ).bind (fun r8 => (f_X4_endsClause 20 r8).bind (fun r9 => (if r9 = 0 then (f_X4_wordAmong 20 1 r8).bind (fun r11 => (if r11 = (1 : Int32) then (b_X7_endTakenSum_58 (wI r8 17 3 (1 : Int32))) else (f_X4_fail 20 (0 : Int32) r8).bind (fun r13 => (b_X7_endTakenSum_58 r13)))) else (f_X7_emit (16 : Int32) r8).bind (fun r14 => (b_X7_endTakenSum_58 (wI r14 17 3 (4 : Int32)))))))
set_option maxHeartbeats 4000000 in
set_option maxRecDepth 20000 in
theorem c_X7_endTakenSum_0 {X : CX} {Ω : OM} (hX : CF X Ω RX7 cX7_endTakenSum 1 none rm_X7_endTakenSum) (hO : OKO Ω) (hΩ : oSH Ω = SHX)      (σ : MS)  : GE X Ω 1 0 0 (emWV) 0 0 0 [(0, .ref 17)] [] σ (b_X7_endTakenSum_0  σ) := by
  unfold b_X7_endTakenSum_0
  refine g_aload_n hX (dc_X7_endTakenSum 0 rfl) rfl 0 rfl ?_
  refine g_iconst (w := (5 : Int32)) hX (dc_X7_endTakenSum 1 rfl) (by decide) ?_
  refine gV_WV (As := [.int (5 : Int32)]) (st := []) hX (dc_X7_endTakenSum 2 rfl) ml_X7_125 (con_X7_settleDownTo hO hΩ (5 : Int32) σ) (stS hΩ 17 rfl) rfl rfl ⟨by decide, by decide⟩ ⟨rfl, rfl⟩ ⟨Nat.zero_le _, Nat.zero_le _⟩ (Nat.le_of_ble_eq_true rfl) (fun r8 _ => ?_)
  refine g_aload_n hX (dc_X7_endTakenSum 3 rfl) rfl 0 rfl ?_
  refine g_getF (q := 20) hX (dc_X7_endTakenSum 4 rfl) fl_X7_27 (by decide) rfl (stS hΩ 17 rfl) rfl ?_
  refine gV_PI (As := []) (st := []) hX (dc_X7_endTakenSum 5 rfl) ml_X7_134 (con_X4_endsClause hO hΩ 20 r8 (stR hΩ 20 (by decide))) (stS hΩ 20 rfl) rfl rfl ⟨by decide, by decide⟩ ⟨rfl, rfl⟩ ⟨Nat.zero_le _, Nat.zero_le _⟩ (Nat.le_of_ble_eq_true rfl) (fun r9 _ => ?_)
  refine g_if_eq (tgt := 29) hX (dc_X7_endTakenSum 6 rfl) (by decide) (fun h10 => ?_) (fun h10 => ?_)
  · refine g_aload_n hX (dc_X7_endTakenSum 14 rfl) rfl 0 rfl ?_
    refine g_getF (q := 20) hX (dc_X7_endTakenSum 15 rfl) fl_X7_27 (by decide) rfl (stS hΩ 17 rfl) rfl ?_
    refine g_ldcS (i := 1) hX (dc_X7_endTakenSum 16 rfl) (by decide) rfl ?_
    refine gV_PI (As := [.ref (1000000 + 1)]) (st := []) hX (dc_X7_endTakenSum 17 rfl) ml_X7_59 (con_X4_wordAmong hO hΩ 20 1 r8 (stR hΩ 20 (by decide)) (by decide)) (stS hΩ 20 rfl) rfl rfl ⟨by decide, by decide⟩ ⟨rfl, rfl⟩ ⟨Nat.zero_le _, Nat.zero_le _⟩ (Nat.le_of_ble_eq_true rfl) (fun r11 _ => ?_)
    refine g_iconst (w := (1 : Int32)) hX (dc_X7_endTakenSum 18 rfl) (by decide) ?_
    refine g_icmp_ne (tgt := 50) hX (dc_X7_endTakenSum 19 rfl) (by decide) (fun h12 => ?_) (fun h12 => ?_)
    · refine g_aload_n hX (dc_X7_endTakenSum 20 rfl) rfl 0 rfl ?_
      refine g_iconst (w := (1 : Int32)) hX (dc_X7_endTakenSum 21 rfl) (by decide) ?_
      refine g_putI (raw := false) hX (dc_X7_endTakenSum 22 rfl) fl_X7_72 (by decide) ⟨rfl, rfl⟩ ⟨rfl, rfl⟩ (stS hΩ 17 rfl) ?_
      refine g_goto (tgt := 58) hX (dc_X7_endTakenSum 23 rfl) (by decide) ?_
      exact g_sub [] rfl (c_X7_endTakenSum_58 hX hO hΩ (wI r8 17 3 (1 : Int32)))
    · refine g_aload_n hX (dc_X7_endTakenSum 24 rfl) rfl 0 rfl ?_
      refine g_getF (q := 20) hX (dc_X7_endTakenSum 25 rfl) fl_X7_27 (by decide) rfl (stS hΩ 17 rfl) rfl ?_
      refine g_iconst (w := (0 : Int32)) hX (dc_X7_endTakenSum 26 rfl) (by decide) ?_
      refine gV_WV (As := [.int (0 : Int32)]) (st := []) hX (dc_X7_endTakenSum 27 rfl) ml_X7_63 (con_X4_fail hO hΩ 20 (0 : Int32) r8 (stR hΩ 20 (by decide))) (stS hΩ 20 rfl) rfl rfl ⟨by decide, by decide⟩ ⟨rfl, rfl⟩ ⟨Nat.zero_le _, Nat.zero_le _⟩ (Nat.le_of_ble_eq_true rfl) (fun r13 _ => ?_)
      exact g_sub [] rfl (c_X7_endTakenSum_58 hX hO hΩ r13)
  · refine g_aload_n hX (dc_X7_endTakenSum 7 rfl) rfl 0 rfl ?_
    refine g_bipush (w := (16 : Int32)) hX (dc_X7_endTakenSum 8 rfl) (by decide) ?_
    refine gV_WV (As := [.int (16 : Int32)]) (st := []) hX (dc_X7_endTakenSum 9 rfl) ml_X7_105 (con_X7_emit hO hΩ (16 : Int32) r8) (stS hΩ 17 rfl) rfl rfl ⟨by decide, by decide⟩ ⟨rfl, rfl⟩ ⟨Nat.zero_le _, Nat.zero_le _⟩ (Nat.le_of_ble_eq_true rfl) (fun r14 _ => ?_)
    refine g_aload_n hX (dc_X7_endTakenSum 10 rfl) rfl 0 rfl ?_
    refine g_iconst (w := (4 : Int32)) hX (dc_X7_endTakenSum 11 rfl) (by decide) ?_
    refine g_putI (raw := false) hX (dc_X7_endTakenSum 12 rfl) fl_X7_72 (by decide) ⟨rfl, rfl⟩ ⟨rfl, rfl⟩ (stS hΩ 17 rfl) ?_
    refine g_goto (tgt := 58) hX (dc_X7_endTakenSum 13 rfl) (by decide) ?_
    exact g_sub [] rfl (c_X7_endTakenSum_58 hX hO hΩ (wI r14 17 3 (4 : Int32)))
def f_X7_endTakenSum  (σ : MS) : Option (MS) := b_X7_endTakenSum_0   σ
theorem con_X7_endTakenSum {Ω : OM} (hO : OKO Ω) (hΩ : oSH Ω = SHX)  (σ : MS)  : Con Ω yX7_endTakenSum cX7_endTakenSum 1 none rm_X7_endTakenSum (emWV) [.ref 17] σ (f_X7_endTakenSum  σ) :=
  con_of hO (by decide +kernel) (Nat.le_of_ble_eq_true rfl) rfl (fun X hX _ => c_X7_endTakenSum_0 hX hO hΩ    σ )
def it_X7_goOnFromValue : List (Nat × Instr × Nat × Nat) := [(0, .aload_n 0, 1, 1), (1, .invokevirtual 118, 3, 4), (4, .istore_n 1, 1, 5), (5, .iload_n 1, 1, 6), (6, .invokestatic 122, 3, 9), (9, .ifCond .eq 25, 3, 12), (12, .aload_n 0, 1, 13), (13, .getstatic 115, 3, 16), (16, .iload_n 1, 1, 17), (17, .iaload, 1, 18), (18, .invokevirtual 125, 3, 21), (21, .aload_n 0, 1, 22), (22, .iload_n 1, 1, 23), (23, .invokevirtual 112, 3, 26), (26, .aload_n 0, 1, 27), (27, .iconst 0, 1, 28), (28, .putfield 72, 3, 31), (31, .goto 23, 3, 34), (34, .aload_n 0, 1, 35), (35, .getfield 75, 3, 38), (38, .iconst 1, 1, 39), (39, .if_icmp .ne 11, 3, 42), (42, .aload_n 0, 1, 43), (43, .iload_n 1, 1, 44), (44, .invokevirtual 128, 3, 47), (47, .goto 7, 3, 50), (50, .aload_n 0, 1, 51), (51, .invokevirtual 131, 3, 54), (54, .return_, 1, 55)]
theorem id_X7_goOnFromValue : ∀ q ∈ it_X7_goOnFromValue, decode cX7_goOnFromValue q.1 = .ok (q.2.1, q.2.2.1) ∧ q.1 + q.2.2.1 = q.2.2.2 := by decide +kernel
theorem dc_X7_goOnFromValue {pc : Nat} {i : Instr} {n pc' : Nat} (j : Nat) (h : it_X7_goOnFromValue[j]? = some (pc, i, n, pc')) : Dc cX7_goOnFromValue pc i n pc' := dc_of id_X7_goOnFromValue j h
abbrev rm_X7_goOnFromValue : Room := { frames := 7, cells := 0, slots := 0, locals := 153 }
def b_X7_goOnFromValue_54     (σ : MS) : Option (MS) := some (σ)
set_option maxHeartbeats 4000000 in
set_option maxRecDepth 20000 in
theorem c_X7_goOnFromValue_54 {X : CX} {Ω : OM} (hX : CF X Ω RX7 cX7_goOnFromValue 2 none rm_X7_goOnFromValue) (hO : OKO Ω) (hΩ : oSH Ω = SHX)      (σ : MS)  : GE X Ω 2 0 0 (emWV) 0 0 54 [] [] σ (b_X7_goOnFromValue_54  σ) := by
  unfold b_X7_goOnFromValue_54
  exact g_vret hX (dc_X7_goOnFromValue 28 rfl) rfl (Nat.le_refl _) (Nat.le_refl _)
def b_X7_goOnFromValue_0     (σ : MS) : Option (MS) := (f_X7_operationOfSign σ).bind (fun r10 => (f_X7_isOfSums r10 σ).bind (fun r11 => (if r11 = 0 then (if (sI σ 17 4) = (1 : Int32) then (f_X7_compareWith r10 σ).bind (fun r14 => (b_X7_goOnFromValue_54 r14)) else (f_X7_endTakenSum σ).bind (fun r15 => (b_X7_goOnFromValue_54 r15))) else chk (inb r10 16) ((f_X7_settleDownTo (levT.getD (ix r10) 0) σ).bind (fun r17 => (f_X7_push r10 r17).bind (fun r18 => (b_X7_goOnFromValue_54 (wI r18 17 3 (0 : Int32)))))))))
set_option maxHeartbeats 4000000 in
set_option maxRecDepth 20000 in
theorem c_X7_goOnFromValue_0 {X : CX} {Ω : OM} (hX : CF X Ω RX7 cX7_goOnFromValue 2 none rm_X7_goOnFromValue) (hO : OKO Ω) (hΩ : oSH Ω = SHX)      (σ : MS)  : GE X Ω 2 0 0 (emWV) 0 0 0 [(0, .ref 17)] [] σ (b_X7_goOnFromValue_0  σ) := by
  unfold b_X7_goOnFromValue_0
  refine g_aload_n hX (dc_X7_goOnFromValue 0 rfl) rfl 0 rfl ?_
  refine gV_PI (As := []) (st := []) hX (dc_X7_goOnFromValue 1 rfl) ml_X7_118 (con_X7_operationOfSign hO hΩ σ) (stS hΩ 17 rfl) rfl rfl ⟨by decide, by decide⟩ ⟨rfl, rfl⟩ ⟨Nat.zero_le _, Nat.zero_le _⟩ (Nat.le_of_ble_eq_true rfl) (fun r10 _ => ?_)
  refine g_istore_n (L' := [(1, .int r10), (0, .ref 17)]) hX (dc_X7_goOnFromValue 2 rfl) rfl (by decide) rfl ?_
  refine g_iload_n hX (dc_X7_goOnFromValue 3 rfl) rfl 0 rfl ?_
  refine gS_PI (As := [.int r10]) (st := []) hX (dc_X7_goOnFromValue 4 rfl) ml_X7_122 (con_X7_isOfSums hO hΩ r10 σ) rfl rfl ⟨by decide, by decide⟩ ⟨rfl, rfl⟩ ⟨Nat.zero_le _, Nat.zero_le _⟩ (Nat.le_of_ble_eq_true rfl) (fun r11 _ => ?_)
  refine g_if_eq (tgt := 34) hX (dc_X7_goOnFromValue 5 rfl) (by decide) (fun h12 => ?_) (fun h12 => ?_)
  · refine g_aload_n hX (dc_X7_goOnFromValue 18 rfl) rfl 1 rfl ?_
    refine g_getI hX (dc_X7_goOnFromValue 19 rfl) fl_X7_75 (by decide) rfl (stS hΩ 17 rfl) ?_
    refine g_iconst (w := (1 : Int32)) hX (dc_X7_goOnFromValue 20 rfl) (by decide) ?_
    refine g_icmp_ne (tgt := 50) hX (dc_X7_goOnFromValue 21 rfl) (by decide) (fun h13 => ?_) (fun h13 => ?_)
    · refine g_aload_n hX (dc_X7_goOnFromValue 22 rfl) rfl 1 rfl ?_
      refine g_iload_n hX (dc_X7_goOnFromValue 23 rfl) rfl 0 rfl ?_
      refine gV_WV (As := [.int r10]) (st := []) hX (dc_X7_goOnFromValue 24 rfl) ml_X7_128 (con_X7_compareWith hO hΩ r10 σ) (stS hΩ 17 rfl) rfl rfl ⟨by decide, by decide⟩ ⟨rfl, rfl⟩ ⟨Nat.zero_le _, Nat.zero_le _⟩ (Nat.le_of_ble_eq_true rfl) (fun r14 _ => ?_)
      refine g_goto (tgt := 54) hX (dc_X7_goOnFromValue 25 rfl) (by decide) ?_
      exact g_sub [] rfl (c_X7_goOnFromValue_54 hX hO hΩ r14)
    · refine g_aload_n hX (dc_X7_goOnFromValue 26 rfl) rfl 1 rfl ?_
      refine gV_WV (As := []) (st := []) hX (dc_X7_goOnFromValue 27 rfl) ml_X7_131 (con_X7_endTakenSum hO hΩ σ) (stS hΩ 17 rfl) rfl rfl ⟨by decide, by decide⟩ ⟨rfl, rfl⟩ ⟨Nat.zero_le _, Nat.zero_le _⟩ (Nat.le_of_ble_eq_true rfl) (fun r15 _ => ?_)
      exact g_sub [] rfl (c_X7_goOnFromValue_54 hX hO hΩ r15)
  · refine g_aload_n hX (dc_X7_goOnFromValue 6 rfl) rfl 1 rfl ?_
    refine g_getLev hX (dc_X7_goOnFromValue 7 rfl) wv_lev ?_
    refine g_iload_n hX (dc_X7_goOnFromValue 8 rfl) rfl 0 rfl ?_
    refine g_chk (fun hc16 => ?_)
    refine g_lev hX (dc_X7_goOnFromValue 9 rfl) hc16 ?_
    refine gV_WV (As := [.int (levT.getD (ix r10) 0)]) (st := []) hX (dc_X7_goOnFromValue 10 rfl) ml_X7_125 (con_X7_settleDownTo hO hΩ (levT.getD (ix r10) 0) σ) (stS hΩ 17 rfl) rfl rfl ⟨by decide, by decide⟩ ⟨rfl, rfl⟩ ⟨Nat.zero_le _, Nat.zero_le _⟩ (Nat.le_of_ble_eq_true rfl) (fun r17 _ => ?_)
    refine g_aload_n hX (dc_X7_goOnFromValue 11 rfl) rfl 1 rfl ?_
    refine g_iload_n hX (dc_X7_goOnFromValue 12 rfl) rfl 0 rfl ?_
    refine gV_WV (As := [.int r10]) (st := []) hX (dc_X7_goOnFromValue 13 rfl) ml_X7_112 (con_X7_push hO hΩ r10 r17) (stS hΩ 17 rfl) rfl rfl ⟨by decide, by decide⟩ ⟨rfl, rfl⟩ ⟨Nat.zero_le _, Nat.zero_le _⟩ (Nat.le_of_ble_eq_true rfl) (fun r18 _ => ?_)
    refine g_aload_n hX (dc_X7_goOnFromValue 14 rfl) rfl 1 rfl ?_
    refine g_iconst (w := (0 : Int32)) hX (dc_X7_goOnFromValue 15 rfl) (by decide) ?_
    refine g_putI (raw := false) hX (dc_X7_goOnFromValue 16 rfl) fl_X7_72 (by decide) ⟨rfl, rfl⟩ ⟨rfl, rfl⟩ (stS hΩ 17 rfl) ?_
    refine g_goto (tgt := 54) hX (dc_X7_goOnFromValue 17 rfl) (by decide) ?_
    exact g_sub [] rfl (c_X7_goOnFromValue_54 hX hO hΩ (wI r18 17 3 (0 : Int32)))
def f_X7_goOnFromValue  (σ : MS) : Option (MS) := b_X7_goOnFromValue_0   σ
theorem con_X7_goOnFromValue {Ω : OM} (hO : OKO Ω) (hΩ : oSH Ω = SHX)  (σ : MS)  : Con Ω yX7_goOnFromValue cX7_goOnFromValue 2 none rm_X7_goOnFromValue (emWV) [.ref 17] σ (f_X7_goOnFromValue  σ) :=
  con_of hO (by decide +kernel) (Nat.le_of_ble_eq_true rfl) rfl (fun X hX _ => c_X7_goOnFromValue_0 hX hO hΩ    σ )
def it_X7_closeBracket : List (Nat × Instr × Nat × Nat) := [(0, .aload_n 0, 1, 1), (1, .iconst 1, 1, 2), (2, .invokevirtual 125, 3, 5), (5, .aload_n 0, 1, 6), (6, .getfield 66, 3, 9), (9, .ifCond .ne 12, 3, 12), (12, .aload_n 0, 1, 13), (13, .getfield 27, 3, 16), (16, .iconst 0, 1, 17), (17, .invokevirtual 63, 3, 20), (20, .return_, 1, 21), (21, .aload_n 0, 1, 22), (22, .dup, 1, 23), (23, .getfield 66, 3, 26), (26, .iconst 1, 1, 27), (27, .isub, 1, 28), (28, .putfield 66, 3, 31), (31, .aload_n 0, 1, 32), (32, .dup, 1, 33), (33, .getfield 69, 3, 36), (36, .iconst 1, 1, 37), (37, .isub, 1, 38), (38, .putfield 69, 3, 41), (41, .aload_n 0, 1, 42), (42, .iconst 3, 1, 43), (43, .putfield 72, 3, 46), (46, .return_, 1, 47)]
theorem id_X7_closeBracket : ∀ q ∈ it_X7_closeBracket, decode cX7_closeBracket q.1 = .ok (q.2.1, q.2.2.1) ∧ q.1 + q.2.2.1 = q.2.2.2 := by decide +kernel
theorem dc_X7_closeBracket {pc : Nat} {i : Instr} {n pc' : Nat} (j : Nat) (h : it_X7_closeBracket[j]? = some (pc, i, n, pc')) : Dc cX7_closeBracket pc i n pc' := dc_of id_X7_closeBracket j h
abbrev rm_X7_closeBracket : Room := { frames := 2, cells := 0, slots := 0, locals := 42 }
def b_X7_closeBracket_0     (σ : MS) : Option (MS) := (f_X7_settleDownTo (1 : Int32) σ).bind (fun r4 => (if (sI r4 17 2) = 0 then (f_X4_fail 20 (0 : Int32) r4).bind (fun r6 => some (r6)) else some ((wI (wI (wI r4 17 2 ((sI r4 17 2) - (1 : Int32))) 17 5 ((sI (wI r4 17 2 ((sI r4 17 2) - (1 : Int32))) 17 5) - (1 : Int32))) 17 3 (3 : Int32)))))
set_option maxHeartbeats 4000000 in
set_option maxRecDepth 20000 in
theorem c_X7_closeBracket_0 {X : CX} {Ω : OM} (hX : CF X Ω RX7 cX7_closeBracket 1 none rm_X7_closeBracket) (hO : OKO Ω) (hΩ : oSH Ω = SHX)      (σ : MS)  : GE X Ω 1 0 0 (emWV) 0 0 0 [(0, .ref 17)] [] σ (b_X7_closeBracket_0  σ) := by
  unfold b_X7_closeBracket_0
  refine g_aload_n hX (dc_X7_closeBracket 0 rfl) rfl 0 rfl ?_
  refine g_iconst (w := (1 : Int32)) hX (dc_X7_closeBracket 1 rfl) (by decide) ?_
  refine gV_WV (As := [.int (1 : Int32)]) (st := []) hX (dc_X7_closeBracket 2 rfl) ml_X7_125 (con_X7_settleDownTo hO hΩ (1 : Int32) σ) (stS hΩ 17 rfl) rfl rfl ⟨by decide, by decide⟩ ⟨rfl, rfl⟩ ⟨Nat.zero_le _, Nat.zero_le _⟩ (Nat.le_of_ble_eq_true rfl) (fun r4 _ => ?_)
  refine g_aload_n hX (dc_X7_closeBracket 3 rfl) rfl 0 rfl ?_
  refine g_getI hX (dc_X7_closeBracket 4 rfl) fl_X7_66 (by decide) rfl (stS hΩ 17 rfl) ?_
  refine g_if_ne (tgt := 21) hX (dc_X7_closeBracket 5 rfl) (by decide) (fun h5 => ?_) (fun h5 => ?_)
  · refine g_aload_n hX (dc_X7_closeBracket 6 rfl) rfl 0 rfl ?_
    refine g_getF (q := 20) hX (dc_X7_closeBracket 7 rfl) fl_X7_27 (by decide) rfl (stS hΩ 17 rfl) rfl ?_
    refine g_iconst (w := (0 : Int32)) hX (dc_X7_closeBracket 8 rfl) (by decide) ?_
    refine gV_WV (As := [.int (0 : Int32)]) (st := []) hX (dc_X7_closeBracket 9 rfl) ml_X7_63 (con_X4_fail hO hΩ 20 (0 : Int32) r4 (stR hΩ 20 (by decide))) (stS hΩ 20 rfl) rfl rfl ⟨by decide, by decide⟩ ⟨rfl, rfl⟩ ⟨Nat.zero_le _, Nat.zero_le _⟩ (Nat.le_of_ble_eq_true rfl) (fun r6 _ => ?_)
    exact g_vret hX (dc_X7_closeBracket 10 rfl) rfl (Nat.le_refl _) (Nat.le_refl _)
  · refine g_aload_n hX (dc_X7_closeBracket 11 rfl) rfl 0 rfl ?_
    refine g_dup hX (dc_X7_closeBracket 12 rfl) rfl ?_
    refine g_getI hX (dc_X7_closeBracket 13 rfl) fl_X7_66 (by decide) rfl (stS hΩ 17 rfl) ?_
    refine g_iconst (w := (1 : Int32)) hX (dc_X7_closeBracket 14 rfl) (by decide) ?_
    refine g_isub hX (dc_X7_closeBracket 15 rfl) ?_
    refine g_putI (raw := false) hX (dc_X7_closeBracket 16 rfl) fl_X7_66 (by decide) ⟨rfl, rfl⟩ ⟨rfl, rfl⟩ (stS hΩ 17 rfl) ?_
    refine g_aload_n hX (dc_X7_closeBracket 17 rfl) rfl 0 rfl ?_
    refine g_dup hX (dc_X7_closeBracket 18 rfl) rfl ?_
    refine g_getI hX (dc_X7_closeBracket 19 rfl) fl_X7_69 (by decide) rfl (stS hΩ 17 rfl) ?_
    refine g_iconst (w := (1 : Int32)) hX (dc_X7_closeBracket 20 rfl) (by decide) ?_
    refine g_isub hX (dc_X7_closeBracket 21 rfl) ?_
    refine g_putI (raw := false) hX (dc_X7_closeBracket 22 rfl) fl_X7_69 (by decide) ⟨rfl, rfl⟩ ⟨rfl, rfl⟩ (stS hΩ 17 rfl) ?_
    refine g_aload_n hX (dc_X7_closeBracket 23 rfl) rfl 0 rfl ?_
    refine g_iconst (w := (3 : Int32)) hX (dc_X7_closeBracket 24 rfl) (by decide) ?_
    refine g_putI (raw := false) hX (dc_X7_closeBracket 25 rfl) fl_X7_72 (by decide) ⟨rfl, rfl⟩ ⟨rfl, rfl⟩ (stS hΩ 17 rfl) ?_
    exact g_vret hX (dc_X7_closeBracket 26 rfl) rfl (Nat.le_refl _) (Nat.le_refl _)
def f_X7_closeBracket  (σ : MS) : Option (MS) := b_X7_closeBracket_0   σ
theorem con_X7_closeBracket {Ω : OM} (hO : OKO Ω) (hΩ : oSH Ω = SHX)  (σ : MS)  : Con Ω yX7_closeBracket cX7_closeBracket 1 none rm_X7_closeBracket (emWV) [.ref 17] σ (f_X7_closeBracket  σ) :=
  con_of hO (by decide +kernel) (Nat.le_of_ble_eq_true rfl) rfl (fun X hX _ => c_X7_closeBracket_0 hX hO hΩ    σ )
def it_X7_endTest : List (Nat × Instr × Nat × Nat) := [(0, .aload_n 0, 1, 1), (1, .iconst 1, 1, 2), (2, .invokevirtual 125, 3, 5), (5, .aload_n 0, 1, 6), (6, .getfield 66, 3, 9), (9, .ifCond .le 11, 3, 12), (12, .aload_n 0, 1, 13), (13, .getfield 27, 3, 16), (16, .iconst 0, 1, 17), (17, .invokevirtual 63, 3, 20), (20, .aload_n 0, 1, 21), (21, .bipush 17, 2, 23), (23, .invokevirtual 105, 3, 26), (26, .aload_n 0, 1, 27), (27, .iconst 4, 1, 28), (28, .putfield 72, 3, 31), (31, .return_, 1, 32)]
theorem id_X7_endTest : ∀ q ∈ it_X7_endTest, decode cX7_endTest q.1 = .ok (q.2.1, q.2.2.1) ∧ q.1 + q.2.2.1 = q.2.2.2 := by decide +kernel
theorem dc_X7_endTest {pc : Nat} {i : Instr} {n pc' : Nat} (j : Nat) (h : it_X7_endTest[j]? = some (pc, i, n, pc')) : Dc cX7_endTest pc i n pc' := dc_of id_X7_endTest j h
abbrev rm_X7_endTest : Room := { frames := 2, cells := 0, slots := 0, locals := 42 }
def b_X7_endTest_20     (σ : MS) : Option (MS) := (f_X7_emit (17 : Int32) σ).bind (fun r5 => some ((wI r5 17 3 (4 : Int32))))
set_option maxHeartbeats 4000000 in
set_option maxRecDepth 20000 in
theorem c_X7_endTest_20 {X : CX} {Ω : OM} (hX : CF X Ω RX7 cX7_endTest 1 none rm_X7_endTest) (hO : OKO Ω) (hΩ : oSH Ω = SHX)      (σ : MS)  : GE X Ω 1 0 0 (emWV) 0 0 20 [(0, .ref 17)] [] σ (b_X7_endTest_20  σ) := by
  unfold b_X7_endTest_20
  refine g_aload_n hX (dc_X7_endTest 10 rfl) rfl 0 rfl ?_
  refine g_bipush (w := (17 : Int32)) hX (dc_X7_endTest 11 rfl) (by decide) ?_
  refine gV_WV (As := [.int (17 : Int32)]) (st := []) hX (dc_X7_endTest 12 rfl) ml_X7_105 (con_X7_emit hO hΩ (17 : Int32) σ) (stS hΩ 17 rfl) rfl rfl ⟨by decide, by decide⟩ ⟨rfl, rfl⟩ ⟨Nat.zero_le _, Nat.zero_le _⟩ (Nat.le_of_ble_eq_true rfl) (fun r5 _ => ?_)
  refine g_aload_n hX (dc_X7_endTest 13 rfl) rfl 0 rfl ?_
  refine g_iconst (w := (4 : Int32)) hX (dc_X7_endTest 14 rfl) (by decide) ?_
  refine g_putI (raw := false) hX (dc_X7_endTest 15 rfl) fl_X7_72 (by decide) ⟨rfl, rfl⟩ ⟨rfl, rfl⟩ (stS hΩ 17 rfl) ?_
  exact g_vret hX (dc_X7_endTest 16 rfl) rfl (Nat.le_refl _) (Nat.le_refl _)
def b_X7_endTest_0     (σ : MS) : Option (MS) := (f_X7_settleDownTo (1 : Int32) σ).bind (fun r6 => (if (sI r6 17 2) ≤ 0 then (b_X7_endTest_20 r6) else (f_X4_fail 20 (0 : Int32) r6).bind (fun r8 => (b_X7_endTest_20 r8))))
set_option maxHeartbeats 4000000 in
set_option maxRecDepth 20000 in
theorem c_X7_endTest_0 {X : CX} {Ω : OM} (hX : CF X Ω RX7 cX7_endTest 1 none rm_X7_endTest) (hO : OKO Ω) (hΩ : oSH Ω = SHX)      (σ : MS)  : GE X Ω 1 0 0 (emWV) 0 0 0 [(0, .ref 17)] [] σ (b_X7_endTest_0  σ) := by
  unfold b_X7_endTest_0
  refine g_aload_n hX (dc_X7_endTest 0 rfl) rfl 0 rfl ?_
  refine g_iconst (w := (1 : Int32)) hX (dc_X7_endTest 1 rfl) (by decide) ?_
  refine gV_WV (As := [.int (1 : Int32)]) (st := []) hX (dc_X7_endTest 2 rfl) ml_X7_125 (con_X7_settleDownTo hO hΩ (1 : Int32) σ) (stS hΩ 17 rfl) rfl rfl ⟨by decide, by decide⟩ ⟨rfl, rfl⟩ ⟨Nat.zero_le _, Nat.zero_le _⟩ (Nat.le_of_ble_eq_true rfl) (fun r6 _ => ?_)
  refine g_aload_n hX (dc_X7_endTest 3 rfl) rfl 0 rfl ?_
  refine g_getI hX (dc_X7_endTest 4 rfl) fl_X7_66 (by decide) rfl (stS hΩ 17 rfl) ?_
  refine g_if_le (tgt := 20) hX (dc_X7_endTest 5 rfl) (by decide) (fun h7 => ?_) (fun h7 => ?_)
  · exact g_sub [0] rfl (c_X7_endTest_20 hX hO hΩ r6)
  · refine g_aload_n hX (dc_X7_endTest 6 rfl) rfl 0 rfl ?_
    refine g_getF (q := 20) hX (dc_X7_endTest 7 rfl) fl_X7_27 (by decide) rfl (stS hΩ 17 rfl) rfl ?_
    refine g_iconst (w := (0 : Int32)) hX (dc_X7_endTest 8 rfl) (by decide) ?_
    refine gV_WV (As := [.int (0 : Int32)]) (st := []) hX (dc_X7_endTest 9 rfl) ml_X7_63 (con_X4_fail hO hΩ 20 (0 : Int32) r6 (stR hΩ 20 (by decide))) (stS hΩ 20 rfl) rfl rfl ⟨by decide, by decide⟩ ⟨rfl, rfl⟩ ⟨Nat.zero_le _, Nat.zero_le _⟩ (Nat.le_of_ble_eq_true rfl) (fun r8 _ => ?_)
    exact g_sub [0] rfl (c_X7_endTest_20 hX hO hΩ r8)
def f_X7_endTest  (σ : MS) : Option (MS) := b_X7_endTest_0   σ
theorem con_X7_endTest {Ω : OM} (hO : OKO Ω) (hΩ : oSH Ω = SHX)  (σ : MS)  : Con Ω yX7_endTest cX7_endTest 1 none rm_X7_endTest (emWV) [.ref 17] σ (f_X7_endTest  σ) :=
  con_of hO (by decide +kernel) (Nat.le_of_ble_eq_true rfl) rfl (fun X hX _ => c_X7_endTest_0 hX hO hΩ    σ )
def it_X7_goOnFromFact : List (Nat × Instr × Nat × Nat) := [(0, .aload_n 0, 1, 1), (1, .getfield 27, 3, 4), (4, .ldc 57, 2, 6), (6, .invokevirtual 59, 3, 9), (9, .istore_n 1, 1, 10), (10, .iload_n 1, 1, 11), (11, .iconst 2, 1, 12), (12, .if_icmp .eq 8, 3, 15), (15, .iload_n 1, 1, 16), (16, .iconst 3, 1, 17), (17, .if_icmp .ne 38, 3, 20), (20, .iload_n 1, 1, 21), (21, .iconst 2, 1, 22), (22, .if_icmp .ne 8, 3, 25), (25, .bipush 13, 2, 27), (27, .goto 5, 3, 30), (30, .bipush 14, 2, 32), (32, .istore_n 2, 1, 33), (33, .aload_n 0, 1, 34), (34, .getstatic 115, 3, 37), (37, .iload_n 2, 1, 38), (38, .iaload, 1, 39), (39, .invokevirtual 125, 3, 42), (42, .aload_n 0, 1, 43), (43, .iload_n 2, 1, 44), (44, .invokevirtual 112, 3, 47), (47, .aload_n 0, 1, 48), (48, .iconst 1, 1, 49), (49, .putfield 72, 3, 52), (52, .goto 47, 3, 55), (55, .aload_n 0, 1, 56), (56, .getfield 27, 3, 59), (59, .bipush 93, 2, 61), (61, .invokevirtual 108, 3, 64), (64, .ifCond .eq 10, 3, 67), (67, .aload_n 0, 1, 68), (68, .invokevirtual 137, 3, 71), (71, .goto 28, 3, 74), (74, .aload_n 0, 1, 75), (75, .getfield 27, 3, 78), (78, .invokevirtual 134, 3, 81), (81, .ifCond .eq 10, 3, 84), (84, .aload_n 0, 1, 85), (85, .invokevirtual 140, 3, 88), (88, .goto 11, 3, 91), (91, .aload_n 0, 1, 92), (92, .getfield 27, 3, 95), (95, .iconst 0, 1, 96), (96, .invokevirtual 63, 3, 99), (99, .return_, 1, 100)]
theorem id_X7_goOnFromFact : ∀ q ∈ it_X7_goOnFromFact, decode cX7_goOnFromFact q.1 = .ok (q.2.1, q.2.2.1) ∧ q.1 + q.2.2.1 = q.2.2.2 := by decide +kernel
theorem dc_X7_goOnFromFact {pc : Nat} {i : Instr} {n pc' : Nat} (j : Nat) (h : it_X7_goOnFromFact[j]? = some (pc, i, n, pc')) : Dc cX7_goOnFromFact pc i n pc' := dc_of id_X7_goOnFromFact j h
abbrev rm_X7_goOnFromFact : Room := { frames := 6, cells := 0, slots := 0, locals := 133 }
def b_X7_goOnFromFact_99     (σ : MS) : Option (MS) := some (σ)
set_option maxHeartbeats 4000000 in
set_option maxRecDepth 20000 in
theorem c_X7_goOnFromFact_99 {X : CX} {Ω : OM} (hX : CF X Ω RX7 cX7_goOnFromFact 3 none rm_X7_goOnFromFact) (hO : OKO Ω) (hΩ : oSH Ω = SHX)      (σ : MS)  : GE X Ω 3 0 0 (emWV) 0 0 99 [] [] σ (b_X7_goOnFromFact_99  σ) := by
  unfold b_X7_goOnFromFact_99
  exact g_vret hX (dc_X7_goOnFromFact 49 rfl) rfl (Nat.le_refl _) (Nat.le_refl _)
def b_X7_goOnFromFact_32    (s0 : Int32) (σ : MS) : Option (MS) := chk (inb s0 16) ((f_X7_settleDownTo (levT.getD (ix s0) 0) σ).bind (fun r16 => (f_X7_push s0 r16).bind (fun r17 => (b_X7_goOnFromFact_99 (wI r17 17 3 (1 : Int32))))))
set_option maxHeartbeats 4000000 in
set_option maxRecDepth 20000 in
theorem c_X7_goOnFromFact_32 {X : CX} {Ω : OM} (hX : CF X Ω RX7 cX7_goOnFromFact 3 none rm_X7_goOnFromFact) (hO : OKO Ω) (hΩ : oSH Ω = SHX)     (s0 : Int32) (σ : MS)  : GE X Ω 3 0 0 (emWV) 0 0 32 [(0, .ref 17)] [.int s0] σ (b_X7_goOnFromFact_32  s0 σ) := by
  unfold b_X7_goOnFromFact_32
  refine g_istore_n (L' := [(2, .int s0), (0, .ref 17)]) hX (dc_X7_goOnFromFact 17 rfl) rfl (by decide) rfl ?_
  refine g_aload_n hX (dc_X7_goOnFromFact 18 rfl) rfl 1 rfl ?_
  refine g_getLev hX (dc_X7_goOnFromFact 19 rfl) wv_lev ?_
  refine g_iload_n hX (dc_X7_goOnFromFact 20 rfl) rfl 0 rfl ?_
  refine g_chk (fun hc15 => ?_)
  refine g_lev hX (dc_X7_goOnFromFact 21 rfl) hc15 ?_
  refine gV_WV (As := [.int (levT.getD (ix s0) 0)]) (st := []) hX (dc_X7_goOnFromFact 22 rfl) ml_X7_125 (con_X7_settleDownTo hO hΩ (levT.getD (ix s0) 0) σ) (stS hΩ 17 rfl) rfl rfl ⟨by decide, by decide⟩ ⟨rfl, rfl⟩ ⟨Nat.zero_le _, Nat.zero_le _⟩ (Nat.le_of_ble_eq_true rfl) (fun r16 _ => ?_)
  refine g_aload_n hX (dc_X7_goOnFromFact 23 rfl) rfl 1 rfl ?_
  refine g_iload_n hX (dc_X7_goOnFromFact 24 rfl) rfl 0 rfl ?_
  refine gV_WV (As := [.int s0]) (st := []) hX (dc_X7_goOnFromFact 25 rfl) ml_X7_112 (con_X7_push hO hΩ s0 r16) (stS hΩ 17 rfl) rfl rfl ⟨by decide, by decide⟩ ⟨rfl, rfl⟩ ⟨Nat.zero_le _, Nat.zero_le _⟩ (Nat.le_of_ble_eq_true rfl) (fun r17 _ => ?_)
  refine g_aload_n hX (dc_X7_goOnFromFact 26 rfl) rfl 1 rfl ?_
  refine g_iconst (w := (1 : Int32)) hX (dc_X7_goOnFromFact 27 rfl) (by decide) ?_
  refine g_putI (raw := false) hX (dc_X7_goOnFromFact 28 rfl) fl_X7_72 (by decide) ⟨rfl, rfl⟩ ⟨rfl, rfl⟩ (stS hΩ 17 rfl) ?_
  refine g_goto (tgt := 99) hX (dc_X7_goOnFromFact 29 rfl) (by decide) ?_
  exact g_sub [] rfl (c_X7_goOnFromFact_99 hX hO hΩ (wI r17 17 3 (1 : Int32)))
def b_X7_goOnFromFact_20    (y1 : Int32) (σ : MS) : Option (MS) := (if y1 = (2 : Int32) then (b_X7_goOnFromFact_32 ((13 : Int32)) σ) else (b_X7_goOnFromFact_32 ((14 : Int32)) σ))
set_option maxHeartbeats 4000000 in
set_option maxRecDepth 20000 in
theorem c_X7_goOnFromFact_20 {X : CX} {Ω : OM} (hX : CF X Ω RX7 cX7_goOnFromFact 3 none rm_X7_goOnFromFact) (hO : OKO Ω) (hΩ : oSH Ω = SHX)     (y1 : Int32) (σ : MS)  : GE X Ω 3 0 0 (emWV) 0 0 20 [(0, .ref 17), (1, .int y1)] [] σ (b_X7_goOnFromFact_20  y1 σ) := by
  unfold b_X7_goOnFromFact_20
  refine g_iload_n hX (dc_X7_goOnFromFact 11 rfl) rfl 1 rfl ?_
  refine g_iconst (w := (2 : Int32)) hX (dc_X7_goOnFromFact 12 rfl) (by decide) ?_
  refine g_icmp_ne (tgt := 30) hX (dc_X7_goOnFromFact 13 rfl) (by decide) (fun h18 => ?_) (fun h18 => ?_)
  · refine g_bipush (w := (13 : Int32)) hX (dc_X7_goOnFromFact 14 rfl) (by decide) ?_
    refine g_goto (tgt := 32) hX (dc_X7_goOnFromFact 15 rfl) (by decide) ?_
    exact g_sub [0] rfl (c_X7_goOnFromFact_32 hX hO hΩ ((13 : Int32)) σ)
  · refine g_bipush (w := (14 : Int32)) hX (dc_X7_goOnFromFact 16 rfl) (by decide) ?_
    exact g_sub [0] rfl (c_X7_goOnFromFact_32 hX hO hΩ ((14 : Int32)) σ)
def b_X7_goOnFromFact_0     (σ : MS) : Option (MS) := (f_X4_wordAmong 20 1 σ).bind (fun r19 => (if r19 = (2 : Int32) then (b_X7_goOnFromFact_20 (r19) σ) else (if r19 = (3 : Int32) then (b_X7_goOnFromFact_20 (r19) σ) else (f_X4_isSign 20 (93 : Int32) σ).bind (fun r22 => (if r22 = 0 then (f_X4_endsClause 20 σ).bind (fun r24 => (if r24 = 0 then (f_X4_fail 20 (0 : Int32) σ).bind (fun r26 => (b_X7_goOnFromFact_99 r26)) else (f_X7_endTest σ).bind (fun r27 => (b_X7_goOnFromFact_99 r27)))) else (f_X7_closeBracket σ).bind (fun r28 => (b_X7_goOnFromFact_99 r28)))))))
set_option maxHeartbeats 4000000 in
set_option maxRecDepth 20000 in
theorem c_X7_goOnFromFact_0 {X : CX} {Ω : OM} (hX : CF X Ω RX7 cX7_goOnFromFact 3 none rm_X7_goOnFromFact) (hO : OKO Ω) (hΩ : oSH Ω = SHX)      (σ : MS)  : GE X Ω 3 0 0 (emWV) 0 0 0 [(0, .ref 17)] [] σ (b_X7_goOnFromFact_0  σ) := by
  unfold b_X7_goOnFromFact_0
  refine g_aload_n hX (dc_X7_goOnFromFact 0 rfl) rfl 0 rfl ?_
  refine g_getF (q := 20) hX (dc_X7_goOnFromFact 1 rfl) fl_X7_27 (by decide) rfl (stS hΩ 17 rfl) rfl ?_
  refine g_ldcS (i := 1) hX (dc_X7_goOnFromFact 2 rfl) (by decide) rfl ?_
  refine gV_PI (As := [.ref (1000000 + 1)]) (st := []) hX (dc_X7_goOnFromFact 3 rfl) ml_X7_59 (con_X4_wordAmong hO hΩ 20 1 σ (stR hΩ 20 (by decide)) (by decide)) (stS hΩ 20 rfl) rfl rfl ⟨by decide, by decide⟩ ⟨rfl, rfl⟩ ⟨Nat.zero_le _, Nat.zero_le _⟩ (Nat.le_of_ble_eq_true rfl) (fun r19 _ => ?_)
  refine g_istore_n (L' := [(1, .int r19), (0, .ref 17)]) hX (dc_X7_goOnFromFact 4 rfl) rfl (by decide) rfl ?_
  refine g_iload_n hX (dc_X7_goOnFromFact 5 rfl) rfl 0 rfl ?_
  refine g_iconst (w := (2 : Int32)) hX (dc_X7_goOnFromFact 6 rfl) (by decide) ?_
  refine g_icmp_eq (tgt := 20) hX (dc_X7_goOnFromFact 7 rfl) (by decide) (fun h20 => ?_) (fun h20 => ?_)
  · exact g_sub [1, 0] rfl (c_X7_goOnFromFact_20 hX hO hΩ (r19) σ)
  · refine g_iload_n hX (dc_X7_goOnFromFact 8 rfl) rfl 0 rfl ?_
    refine g_iconst (w := (3 : Int32)) hX (dc_X7_goOnFromFact 9 rfl) (by decide) ?_
    refine g_icmp_ne (tgt := 55) hX (dc_X7_goOnFromFact 10 rfl) (by decide) (fun h21 => ?_) (fun h21 => ?_)
    · exact g_sub [1, 0] rfl (c_X7_goOnFromFact_20 hX hO hΩ (r19) σ)
    · refine g_aload_n hX (dc_X7_goOnFromFact 30 rfl) rfl 1 rfl ?_
      refine g_getF (q := 20) hX (dc_X7_goOnFromFact 31 rfl) fl_X7_27 (by decide) rfl (stS hΩ 17 rfl) rfl ?_
      refine g_bipush (w := (93 : Int32)) hX (dc_X7_goOnFromFact 32 rfl) (by decide) ?_
      refine gV_PI (As := [.int (93 : Int32)]) (st := []) hX (dc_X7_goOnFromFact 33 rfl) ml_X7_108 (con_X4_isSign hO hΩ 20 (93 : Int32) σ (stR hΩ 20 (by decide))) (stS hΩ 20 rfl) rfl rfl ⟨by decide, by decide⟩ ⟨rfl, rfl⟩ ⟨Nat.zero_le _, Nat.zero_le _⟩ (Nat.le_of_ble_eq_true rfl) (fun r22 _ => ?_)
      refine g_if_eq (tgt := 74) hX (dc_X7_goOnFromFact 34 rfl) (by decide) (fun h23 => ?_) (fun h23 => ?_)
      · refine g_aload_n hX (dc_X7_goOnFromFact 38 rfl) rfl 1 rfl ?_
        refine g_getF (q := 20) hX (dc_X7_goOnFromFact 39 rfl) fl_X7_27 (by decide) rfl (stS hΩ 17 rfl) rfl ?_
        refine gV_PI (As := []) (st := []) hX (dc_X7_goOnFromFact 40 rfl) ml_X7_134 (con_X4_endsClause hO hΩ 20 σ (stR hΩ 20 (by decide))) (stS hΩ 20 rfl) rfl rfl ⟨by decide, by decide⟩ ⟨rfl, rfl⟩ ⟨Nat.zero_le _, Nat.zero_le _⟩ (Nat.le_of_ble_eq_true rfl) (fun r24 _ => ?_)
        refine g_if_eq (tgt := 91) hX (dc_X7_goOnFromFact 41 rfl) (by decide) (fun h25 => ?_) (fun h25 => ?_)
        · refine g_aload_n hX (dc_X7_goOnFromFact 45 rfl) rfl 1 rfl ?_
          refine g_getF (q := 20) hX (dc_X7_goOnFromFact 46 rfl) fl_X7_27 (by decide) rfl (stS hΩ 17 rfl) rfl ?_
          refine g_iconst (w := (0 : Int32)) hX (dc_X7_goOnFromFact 47 rfl) (by decide) ?_
          refine gV_WV (As := [.int (0 : Int32)]) (st := []) hX (dc_X7_goOnFromFact 48 rfl) ml_X7_63 (con_X4_fail hO hΩ 20 (0 : Int32) σ (stR hΩ 20 (by decide))) (stS hΩ 20 rfl) rfl rfl ⟨by decide, by decide⟩ ⟨rfl, rfl⟩ ⟨Nat.zero_le _, Nat.zero_le _⟩ (Nat.le_of_ble_eq_true rfl) (fun r26 _ => ?_)
          exact g_sub [] rfl (c_X7_goOnFromFact_99 hX hO hΩ r26)
        · refine g_aload_n hX (dc_X7_goOnFromFact 42 rfl) rfl 1 rfl ?_
          refine gV_WV (As := []) (st := []) hX (dc_X7_goOnFromFact 43 rfl) ml_X7_140 (con_X7_endTest hO hΩ σ) (stS hΩ 17 rfl) rfl rfl ⟨by decide, by decide⟩ ⟨rfl, rfl⟩ ⟨Nat.zero_le _, Nat.zero_le _⟩ (Nat.le_of_ble_eq_true rfl) (fun r27 _ => ?_)
          refine g_goto (tgt := 99) hX (dc_X7_goOnFromFact 44 rfl) (by decide) ?_
          exact g_sub [] rfl (c_X7_goOnFromFact_99 hX hO hΩ r27)
      · refine g_aload_n hX (dc_X7_goOnFromFact 35 rfl) rfl 1 rfl ?_
        refine gV_WV (As := []) (st := []) hX (dc_X7_goOnFromFact 36 rfl) ml_X7_137 (con_X7_closeBracket hO hΩ σ) (stS hΩ 17 rfl) rfl rfl ⟨by decide, by decide⟩ ⟨rfl, rfl⟩ ⟨Nat.zero_le _, Nat.zero_le _⟩ (Nat.le_of_ble_eq_true rfl) (fun r28 _ => ?_)
        refine g_goto (tgt := 99) hX (dc_X7_goOnFromFact 37 rfl) (by decide) ?_
        exact g_sub [] rfl (c_X7_goOnFromFact_99 hX hO hΩ r28)
def f_X7_goOnFromFact  (σ : MS) : Option (MS) := b_X7_goOnFromFact_0   σ
theorem con_X7_goOnFromFact {Ω : OM} (hO : OKO Ω) (hΩ : oSH Ω = SHX)  (σ : MS)  : Con Ω yX7_goOnFromFact cX7_goOnFromFact 3 none rm_X7_goOnFromFact (emWV) [.ref 17] σ (f_X7_goOnFromFact  σ) :=
  con_of hO (by decide +kernel) (Nat.le_of_ble_eq_true rfl) rfl (fun X hX _ => c_X7_goOnFromFact_0 hX hO hΩ    σ )
def it_X7_readClause : List (Nat × Instr × Nat × Nat) := [(0, .iconst 0, 1, 1), (1, .istore_n 1, 1, 2), (2, .iload_n 1, 1, 3), (3, .sipush 400, 3, 6), (6, .if_icmp .gt 133, 3, 9), (9, .aload_n 0, 1, 10), (10, .getfield 72, 3, 13), (13, .iconst 4, 1, 14), (14, .if_icmp .eq 125, 3, 17), (17, .aload_n 0, 1, 18), (18, .getfield 27, 3, 21), (21, .getfield 41, 3, 24), (24, .ifCond .ne 115, 3, 27), (27, .aload_n 0, 1, 28), (28, .getfield 27, 3, 31), (31, .invokevirtual 54, 3, 34), (34, .aload_n 0, 1, 35), (35, .getfield 72, 3, 38), (38, .iconst 2, 1, 39), (39, .if_icmp .ne 15, 3, 42), (42, .aload_n 0, 1, 43), (43, .invokevirtual 78, 3, 46), (46, .ifCond .eq 8, 3, 49), (49, .aload_n 0, 1, 50), (50, .iconst 3, 1, 51), (51, .putfield 72, 3, 54), (54, .aload_n 0, 1, 55), (55, .getfield 72, 3, 58), (58, .iconst 1, 1, 59), (59, .if_icmp .ne 20, 3, 62), (62, .aload_n 0, 1, 63), (63, .invokevirtual 82, 3, 66), (66, .ifCond .ne 13, 3, 69), (69, .aload_n 0, 1, 70), (70, .iconst 1, 1, 71), (71, .putfield 75, 3, 74), (74, .aload_n 0, 1, 75), (75, .iconst 0, 1, 76), (76, .putfield 72, 3, 79), (79, .aload_n 0, 1, 80), (80, .getfield 72, 3, 83), (83, .tableswitch 46 0 2 #[25, 32, 39], 25, 108), (108, .aload_n 0, 1, 109), (109, .invokevirtual 85, 3, 112), (112, .goto 21, 3, 115), (115, .aload_n 0, 1, 116), (116, .invokevirtual 88, 3, 119), (119, .goto 14, 3, 122), (122, .aload_n 0, 1, 123), (123, .invokevirtual 91, 3, 126), (126, .goto 7, 3, 129), (129, .aload_n 0, 1, 130), (130, .invokevirtual 94, 3, 133), (133, .iinc 1 1, 3, 136), (136, .goto (-134), 3, 139), (139, .return_, 1, 140)]
theorem id_X7_readClause : ∀ q ∈ it_X7_readClause, decode cX7_readClause q.1 = .ok (q.2.1, q.2.2.1) ∧ q.1 + q.2.2.1 = q.2.2.2 := by decide +kernel
theorem dc_X7_readClause {pc : Nat} {i : Instr} {n pc' : Nat} (j : Nat) (h : it_X7_readClause[j]? = some (pc, i, n, pc')) : Dc cX7_readClause pc i n pc' := dc_of id_X7_readClause j h
abbrev rm_X7_readClause : Room := { frames := 8, cells := 0, slots := 0, locals := 174 }
def b_X7_readClause_139     (σ : MS) : Option (MS) := some (σ)
set_option maxHeartbeats 4000000 in
set_option maxRecDepth 20000 in
theorem c_X7_readClause_139 {X : CX} {Ω : OM} (hX : CF X Ω RX7 cX7_readClause 2 none rm_X7_readClause) (hO : OKO Ω) (hΩ : oSH Ω = SHX)      (σ : MS)  : GE X Ω 2 0 0 (emWV) 0 0 139 [] [] σ (b_X7_readClause_139  σ) := by
  unfold b_X7_readClause_139
  exact g_vret hX (dc_X7_readClause 55 rfl) rfl (Nat.le_refl _) (Nat.le_refl _)
def b_X7_readClause_133  (k2 : Int32 → MS → Option (MS))  (y1 : Int32) (σ : MS) : Option (MS) := (k2 ((y1 + (1 : Int32))) σ)
set_option maxHeartbeats 4000000 in
set_option maxRecDepth 20000 in
theorem c_X7_readClause_133 {X : CX} {Ω : OM} (hX : CF X Ω RX7 cX7_readClause 2 none rm_X7_readClause) (hO : OKO Ω) (hΩ : oSH Ω = SHX)   (k2 : Int32 → MS → Option (MS)) (hk2 : ∀ (y1 : Int32) (σ : MS) , GE X Ω 2 0 0 (emWV) 0 0 2 [(0, .ref 17), (1, .int y1)] [] σ (k2 y1 σ))  (y1 : Int32) (σ : MS)  : GE X Ω 2 0 0 (emWV) 0 0 133 [(0, .ref 17), (1, .int y1)] [] σ (b_X7_readClause_133  k2 y1 σ) := by
  unfold b_X7_readClause_133
  refine g_iinc (w := (y1 + (1 : Int32))) (L' := [(1, .int (y1 + (1 : Int32))), (0, .ref 17)]) hX (dc_X7_readClause 53 rfl) 1 rfl rfl (by decide) rfl ?_
  refine g_goto (tgt := 2) hX (dc_X7_readClause 54 rfl) (by decide) ?_
  exact g_sub [1, 0] rfl (hk2 ((y1 + (1 : Int32))) σ )
def b_X7_readClause_79  (k2 : Int32 → MS → Option (MS))  (y1 : Int32) (σ : MS) : Option (MS) := (if (sI σ 17 3) = (0 : Int32) then (f_X7_readValue σ).bind (fun r21 => (b_X7_readClause_133 k2 (y1) r21)) else (if (sI σ 17 3) = (1 : Int32) then (f_X7_deepen σ).bind (fun r22 => (b_X7_readClause_133 k2 (y1) r22)) else (if (sI σ 17 3) = (2 : Int32) then (f_X7_goOnFromValue σ).bind (fun r23 => (b_X7_readClause_133 k2 (y1) r23)) else (f_X7_goOnFromFact σ).bind (fun r24 => (b_X7_readClause_133 k2 (y1) r24)))))
set_option maxHeartbeats 4000000 in
set_option maxRecDepth 20000 in
theorem c_X7_readClause_79 {X : CX} {Ω : OM} (hX : CF X Ω RX7 cX7_readClause 2 none rm_X7_readClause) (hO : OKO Ω) (hΩ : oSH Ω = SHX)   (k2 : Int32 → MS → Option (MS)) (hk2 : ∀ (y1 : Int32) (σ : MS) , GE X Ω 2 0 0 (emWV) 0 0 2 [(0, .ref 17), (1, .int y1)] [] σ (k2 y1 σ))  (y1 : Int32) (σ : MS)  : GE X Ω 2 0 0 (emWV) 0 0 79 [(0, .ref 17), (1, .int y1)] [] σ (b_X7_readClause_79  k2 y1 σ) := by
  unfold b_X7_readClause_79
  refine g_aload_n hX (dc_X7_readClause 39 rfl) rfl 0 rfl ?_
  refine g_getI hX (dc_X7_readClause 40 rfl) fl_X7_72 (by decide) rfl (stS hΩ 17 rfl) ?_
  refine g_ite (fun h18 => ?_) (fun h18 => ?_)
  · refine g_tsIn (off := 25) (tgt := 108) hX (dc_X7_readClause 41 rfl) (by rw [h18]; decide) (by rw [h18]; decide) (by rw [h18]; rfl) (by decide) ?_
    refine g_aload_n hX (dc_X7_readClause 42 rfl) rfl 0 rfl ?_
    refine gV_WV (As := []) (st := []) hX (dc_X7_readClause 43 rfl) ml_X7_85 (con_X7_readValue hO hΩ σ) (stS hΩ 17 rfl) rfl rfl ⟨by decide, by decide⟩ ⟨rfl, rfl⟩ ⟨Nat.zero_le _, Nat.zero_le _⟩ (Nat.le_of_ble_eq_true rfl) (fun r21 _ => ?_)
    refine g_goto (tgt := 133) hX (dc_X7_readClause 44 rfl) (by decide) ?_
    exact g_sub [0, 1] rfl (c_X7_readClause_133 hX hO hΩ _ hk2 (y1) r21)
  · refine g_ite (fun h19 => ?_) (fun h19 => ?_)
    · refine g_tsIn (off := 32) (tgt := 115) hX (dc_X7_readClause 41 rfl) (by rw [h19]; decide) (by rw [h19]; decide) (by rw [h19]; rfl) (by decide) ?_
      refine g_aload_n hX (dc_X7_readClause 45 rfl) rfl 0 rfl ?_
      refine gV_WV (As := []) (st := []) hX (dc_X7_readClause 46 rfl) ml_X7_88 (con_X7_deepen hO hΩ σ) (stS hΩ 17 rfl) rfl rfl ⟨by decide, by decide⟩ ⟨rfl, rfl⟩ ⟨Nat.zero_le _, Nat.zero_le _⟩ (Nat.le_of_ble_eq_true rfl) (fun r22 _ => ?_)
      refine g_goto (tgt := 133) hX (dc_X7_readClause 47 rfl) (by decide) ?_
      exact g_sub [0, 1] rfl (c_X7_readClause_133 hX hO hΩ _ hk2 (y1) r22)
    · refine g_ite (fun h20 => ?_) (fun h20 => ?_)
      · refine g_tsIn (off := 39) (tgt := 122) hX (dc_X7_readClause 41 rfl) (by rw [h20]; decide) (by rw [h20]; decide) (by rw [h20]; rfl) (by decide) ?_
        refine g_aload_n hX (dc_X7_readClause 48 rfl) rfl 0 rfl ?_
        refine gV_WV (As := []) (st := []) hX (dc_X7_readClause 49 rfl) ml_X7_91 (con_X7_goOnFromValue hO hΩ σ) (stS hΩ 17 rfl) rfl rfl ⟨by decide, by decide⟩ ⟨rfl, rfl⟩ ⟨Nat.zero_le _, Nat.zero_le _⟩ (Nat.le_of_ble_eq_true rfl) (fun r23 _ => ?_)
        refine g_goto (tgt := 133) hX (dc_X7_readClause 50 rfl) (by decide) ?_
        exact g_sub [0, 1] rfl (c_X7_readClause_133 hX hO hΩ _ hk2 (y1) r23)
      · refine g_tsOut (tgt := 129) hX (dc_X7_readClause 41 rfl) (by have e0 := i32ne h18 (k := 0) (by decide); have e1 := i32ne h19 (k := 1) (by decide); have e2 := i32ne h20 (k := 2) (by decide); omega) (by decide) ?_
        refine g_aload_n hX (dc_X7_readClause 51 rfl) rfl 0 rfl ?_
        refine gV_WV (As := []) (st := []) hX (dc_X7_readClause 52 rfl) ml_X7_94 (con_X7_goOnFromFact hO hΩ σ) (stS hΩ 17 rfl) rfl rfl ⟨by decide, by decide⟩ ⟨rfl, rfl⟩ ⟨Nat.zero_le _, Nat.zero_le _⟩ (Nat.le_of_ble_eq_true rfl) (fun r24 _ => ?_)
        exact g_sub [0, 1] rfl (c_X7_readClause_133 hX hO hΩ _ hk2 (y1) r24)
def b_X7_readClause_54  (k2 : Int32 → MS → Option (MS))  (y1 : Int32) (σ : MS) : Option (MS) := (if (sI σ 17 3) = (1 : Int32) then (f_X7_opensDeeper σ).bind (fun r26 => (if r26 = 0 then (b_X7_readClause_79 k2 (y1) (wI (wI σ 17 4 (1 : Int32)) 17 3 (0 : Int32))) else (b_X7_readClause_79 k2 (y1) σ))) else (b_X7_readClause_79 k2 (y1) σ))
set_option maxHeartbeats 4000000 in
set_option maxRecDepth 20000 in
theorem c_X7_readClause_54 {X : CX} {Ω : OM} (hX : CF X Ω RX7 cX7_readClause 2 none rm_X7_readClause) (hO : OKO Ω) (hΩ : oSH Ω = SHX)   (k2 : Int32 → MS → Option (MS)) (hk2 : ∀ (y1 : Int32) (σ : MS) , GE X Ω 2 0 0 (emWV) 0 0 2 [(0, .ref 17), (1, .int y1)] [] σ (k2 y1 σ))  (y1 : Int32) (σ : MS)  : GE X Ω 2 0 0 (emWV) 0 0 54 [(0, .ref 17), (1, .int y1)] [] σ (b_X7_readClause_54  k2 y1 σ) := by
  unfold b_X7_readClause_54
  refine g_aload_n hX (dc_X7_readClause 26 rfl) rfl 0 rfl ?_
  refine g_getI hX (dc_X7_readClause 27 rfl) fl_X7_72 (by decide) rfl (stS hΩ 17 rfl) ?_
  refine g_iconst (w := (1 : Int32)) hX (dc_X7_readClause 28 rfl) (by decide) ?_
  refine g_icmp_ne (tgt := 79) hX (dc_X7_readClause 29 rfl) (by decide) (fun h25 => ?_) (fun h25 => ?_)
  · refine g_aload_n hX (dc_X7_readClause 30 rfl) rfl 0 rfl ?_
    refine gV_PI (As := []) (st := []) hX (dc_X7_readClause 31 rfl) ml_X7_82 (con_X7_opensDeeper hO hΩ σ) (stS hΩ 17 rfl) rfl rfl ⟨by decide, by decide⟩ ⟨rfl, rfl⟩ ⟨Nat.zero_le _, Nat.zero_le _⟩ (Nat.le_of_ble_eq_true rfl) (fun r26 _ => ?_)
    refine g_if_ne (tgt := 79) hX (dc_X7_readClause 32 rfl) (by decide) (fun h27 => ?_) (fun h27 => ?_)
    · refine g_aload_n hX (dc_X7_readClause 33 rfl) rfl 0 rfl ?_
      refine g_iconst (w := (1 : Int32)) hX (dc_X7_readClause 34 rfl) (by decide) ?_
      refine g_putI (raw := false) hX (dc_X7_readClause 35 rfl) fl_X7_75 (by decide) ⟨rfl, rfl⟩ ⟨rfl, rfl⟩ (stS hΩ 17 rfl) ?_
      refine g_aload_n hX (dc_X7_readClause 36 rfl) rfl 0 rfl ?_
      refine g_iconst (w := (0 : Int32)) hX (dc_X7_readClause 37 rfl) (by decide) ?_
      refine g_putI (raw := false) hX (dc_X7_readClause 38 rfl) fl_X7_72 (by decide) ⟨rfl, rfl⟩ ⟨rfl, rfl⟩ (stS hΩ 17 rfl) ?_
      exact g_sub [0, 1] rfl (c_X7_readClause_79 hX hO hΩ _ hk2 (y1) (wI (wI σ 17 4 (1 : Int32)) 17 3 (0 : Int32)))
    · exact g_sub [0, 1] rfl (c_X7_readClause_79 hX hO hΩ _ hk2 (y1) σ)
  · exact g_sub [0, 1] rfl (c_X7_readClause_79 hX hO hΩ _ hk2 (y1) σ)
def b_X7_readClause_2   : Nat → Int32 → MS → Option (MS)
  | 0, _, _ => none
  | n + 1, y1, σ => (if (400 : Int32) < y1 then (b_X7_readClause_139 σ) else (if (sI σ 17 3) = (4 : Int32) then (b_X7_readClause_139 σ) else (if (sI σ 20 6) = 0 then (f_X4_advance 20 σ).bind (fun r31 => (if (sI r31 17 3) = (2 : Int32) then (f_X7_endsFact r31).bind (fun r33 => (if r33 = 0 then (b_X7_readClause_54 (b_X7_readClause_2  n) (y1) r31) else (b_X7_readClause_54 (b_X7_readClause_2  n) (y1) (wI r31 17 3 (3 : Int32))))) else (b_X7_readClause_54 (b_X7_readClause_2  n) (y1) r31))) else (b_X7_readClause_139 σ))))
set_option maxHeartbeats 4000000 in
set_option maxRecDepth 20000 in
theorem c_X7_readClause_2 {X : CX} {Ω : OM} (hX : CF X Ω RX7 cX7_readClause 2 none rm_X7_readClause) (hO : OKO Ω) (hΩ : oSH Ω = SHX)    : ∀ (n : Nat) (y1 : Int32) (σ : MS) , GE X Ω 2 0 0 (emWV) 0 0 2 [(0, .ref 17), (1, .int y1)] [] σ (b_X7_readClause_2  n y1 σ)
  | 0, _, _ => g_none
  | n + 1, y1, σ => by
    have hk2 := c_X7_readClause_2 hX hO hΩ  n
    unfold b_X7_readClause_2
    refine g_iload_n hX (dc_X7_readClause 2 rfl) rfl 1 rfl ?_
    refine g_sipush (w := (400 : Int32)) hX (dc_X7_readClause 3 rfl) (by decide) ?_
    refine g_icmp_gt (tgt := 139) hX (dc_X7_readClause 4 rfl) (by decide) (fun h28 => ?_) (fun h28 => ?_)
    · exact g_sub [] rfl (c_X7_readClause_139 hX hO hΩ σ)
    · refine g_aload_n hX (dc_X7_readClause 5 rfl) rfl 0 rfl ?_
      refine g_getI hX (dc_X7_readClause 6 rfl) fl_X7_72 (by decide) rfl (stS hΩ 17 rfl) ?_
      refine g_iconst (w := (4 : Int32)) hX (dc_X7_readClause 7 rfl) (by decide) ?_
      refine g_icmp_eq (tgt := 139) hX (dc_X7_readClause 8 rfl) (by decide) (fun h29 => ?_) (fun h29 => ?_)
      · exact g_sub [] rfl (c_X7_readClause_139 hX hO hΩ σ)
      · refine g_aload_n hX (dc_X7_readClause 9 rfl) rfl 0 rfl ?_
        refine g_getF (q := 20) hX (dc_X7_readClause 10 rfl) fl_X7_27 (by decide) rfl (stS hΩ 17 rfl) rfl ?_
        refine g_getI hX (dc_X7_readClause 11 rfl) fl_X7_41 (by decide) rfl (stS hΩ 20 rfl) ?_
        refine g_if_ne (tgt := 139) hX (dc_X7_readClause 12 rfl) (by decide) (fun h30 => ?_) (fun h30 => ?_)
        · refine g_aload_n hX (dc_X7_readClause 13 rfl) rfl 0 rfl ?_
          refine g_getF (q := 20) hX (dc_X7_readClause 14 rfl) fl_X7_27 (by decide) rfl (stS hΩ 17 rfl) rfl ?_
          refine gV_WV (As := []) (st := []) hX (dc_X7_readClause 15 rfl) ml_X7_54 (con_X4_advance hO hΩ 20 σ (stR hΩ 20 (by decide))) (stS hΩ 20 rfl) rfl rfl ⟨by decide, by decide⟩ ⟨rfl, rfl⟩ ⟨Nat.zero_le _, Nat.zero_le _⟩ (Nat.le_of_ble_eq_true rfl) (fun r31 _ => ?_)
          refine g_aload_n hX (dc_X7_readClause 16 rfl) rfl 0 rfl ?_
          refine g_getI hX (dc_X7_readClause 17 rfl) fl_X7_72 (by decide) rfl (stS hΩ 17 rfl) ?_
          refine g_iconst (w := (2 : Int32)) hX (dc_X7_readClause 18 rfl) (by decide) ?_
          refine g_icmp_ne (tgt := 54) hX (dc_X7_readClause 19 rfl) (by decide) (fun h32 => ?_) (fun h32 => ?_)
          · refine g_aload_n hX (dc_X7_readClause 20 rfl) rfl 0 rfl ?_
            refine gV_PI (As := []) (st := []) hX (dc_X7_readClause 21 rfl) ml_X7_78 (con_X7_endsFact hO hΩ r31) (stS hΩ 17 rfl) rfl rfl ⟨by decide, by decide⟩ ⟨rfl, rfl⟩ ⟨Nat.zero_le _, Nat.zero_le _⟩ (Nat.le_of_ble_eq_true rfl) (fun r33 _ => ?_)
            refine g_if_eq (tgt := 54) hX (dc_X7_readClause 22 rfl) (by decide) (fun h34 => ?_) (fun h34 => ?_)
            · exact g_sub [0, 1] rfl (c_X7_readClause_54 hX hO hΩ _ hk2 (y1) r31)
            · refine g_aload_n hX (dc_X7_readClause 23 rfl) rfl 0 rfl ?_
              refine g_iconst (w := (3 : Int32)) hX (dc_X7_readClause 24 rfl) (by decide) ?_
              refine g_putI (raw := false) hX (dc_X7_readClause 25 rfl) fl_X7_72 (by decide) ⟨rfl, rfl⟩ ⟨rfl, rfl⟩ (stS hΩ 17 rfl) ?_
              exact g_sub [0, 1] rfl (c_X7_readClause_54 hX hO hΩ _ hk2 (y1) (wI r31 17 3 (3 : Int32)))
          · exact g_sub [0, 1] rfl (c_X7_readClause_54 hX hO hΩ _ hk2 (y1) r31)
        · exact g_sub [] rfl (c_X7_readClause_139 hX hO hΩ σ)
def b_X7_readClause_0     (σ : MS) : Option (MS) := (b_X7_readClause_2 FU ((0 : Int32)) σ)
set_option maxHeartbeats 4000000 in
set_option maxRecDepth 20000 in
theorem c_X7_readClause_0 {X : CX} {Ω : OM} (hX : CF X Ω RX7 cX7_readClause 2 none rm_X7_readClause) (hO : OKO Ω) (hΩ : oSH Ω = SHX)      (σ : MS)  : GE X Ω 2 0 0 (emWV) 0 0 0 [(0, .ref 17)] [] σ (b_X7_readClause_0  σ) := by
  unfold b_X7_readClause_0
  refine g_iconst (w := (0 : Int32)) hX (dc_X7_readClause 0 rfl) (by decide) ?_
  refine g_istore_n (L' := [(1, .int (0 : Int32)), (0, .ref 17)]) hX (dc_X7_readClause 1 rfl) rfl (by decide) rfl ?_
  exact g_sub [1, 0] rfl (c_X7_readClause_2 hX hO hΩ FU ((0 : Int32)) σ)
def f_X7_readClause  (σ : MS) : Option (MS) := b_X7_readClause_0   σ
theorem con_X7_readClause {Ω : OM} (hO : OKO Ω) (hΩ : oSH Ω = SHX)  (σ : MS)  : Con Ω yX7_readClause cX7_readClause 2 none rm_X7_readClause (emWV) [.ref 17] σ (f_X7_readClause  σ) :=
  con_of hO (by decide +kernel) (Nat.le_of_ble_eq_true rfl) rfl (fun X hX _ => c_X7_readClause_0 hX hO hΩ    σ )
def it_X7_read : List (Nat × Instr × Nat × Nat) := [(0, .aload_n 0, 1, 1), (1, .getfield 27, 3, 4), (4, .invokevirtual 31, 3, 7), (7, .aload_n 0, 1, 8), (8, .iconst 0, 1, 9), (9, .putfield 34, 3, 12), (12, .aload_n 0, 1, 13), (13, .iconst 0, 1, 14), (14, .putfield 38, 3, 17), (17, .iconst 0, 1, 18), (18, .istore_n 1, 1, 19), (19, .iload_n 1, 1, 20), (20, .bipush 12, 2, 22), (22, .if_icmp .gt 50, 3, 25), (25, .aload_n 0, 1, 26), (26, .getfield 27, 3, 29), (29, .getfield 41, 3, 32), (32, .ifCond .ne 40, 3, 35), (35, .aload_n 0, 1, 36), (36, .iload_n 1, 1, 37), (37, .invokevirtual 44, 3, 40), (40, .aload_n 0, 1, 41), (41, .invokevirtual 48, 3, 44), (44, .aload_n 0, 1, 45), (45, .getfield 27, 3, 48), (48, .getfield 41, 3, 51), (51, .ifCond .ne 15, 3, 54), (54, .aload_n 0, 1, 55), (55, .getfield 27, 3, 58), (58, .getfield 51, 3, 61), (61, .ifCond .ne 5, 3, 64), (64, .iconst 0, 1, 65), (65, .ireturn, 1, 66), (66, .iinc 1 1, 3, 69), (69, .goto (-50), 3, 72), (72, .aload_n 0, 1, 73), (73, .getfield 27, 3, 76), (76, .getfield 41, 3, 79), (79, .ireturn, 1, 80)]
theorem id_X7_read : ∀ q ∈ it_X7_read, decode cX7_read q.1 = .ok (q.2.1, q.2.2.1) ∧ q.1 + q.2.2.1 = q.2.2.2 := by decide +kernel
theorem dc_X7_read {pc : Nat} {i : Instr} {n pc' : Nat} (j : Nat) (h : it_X7_read[j]? = some (pc, i, n, pc')) : Dc cX7_read pc i n pc' := dc_of id_X7_read j h
abbrev rm_X7_read : Room := { frames := 9, cells := 0, slots := 0, locals := 195 }
def b_X7_read_72     (σ : MS) : Option (Int32 × MS) := some ((sI σ 20 6), σ)
set_option maxHeartbeats 4000000 in
set_option maxRecDepth 20000 in
theorem c_X7_read_72 {X : CX} {Ω : OM} (hX : CF X Ω RX7 cX7_read 2 (some .int) rm_X7_read) (hO : OKO Ω) (hΩ : oSH Ω = SHX)      (σ : MS)  : GE X Ω 2 0 0 (emWI) 0 0 72 [(0, .ref 17)] [] σ (b_X7_read_72  σ) := by
  unfold b_X7_read_72
  refine g_aload_n hX (dc_X7_read 35 rfl) rfl 0 rfl ?_
  refine g_getF (q := 20) hX (dc_X7_read 36 rfl) fl_X7_27 (by decide) rfl (stS hΩ 17 rfl) rfl ?_
  refine g_getI hX (dc_X7_read 37 rfl) fl_X7_41 (by decide) rfl (stS hΩ 20 rfl) ?_
  exact g_iret hX (dc_X7_read 38 rfl) rfl rfl (Nat.le_refl _) (Nat.le_refl _)
def b_X7_read_66  (k19 : Int32 → MS → Option (Int32 × MS))  (y1 : Int32) (σ : MS) : Option (Int32 × MS) := (k19 ((y1 + (1 : Int32))) σ)
set_option maxHeartbeats 4000000 in
set_option maxRecDepth 20000 in
theorem c_X7_read_66 {X : CX} {Ω : OM} (hX : CF X Ω RX7 cX7_read 2 (some .int) rm_X7_read) (hO : OKO Ω) (hΩ : oSH Ω = SHX)   (k19 : Int32 → MS → Option (Int32 × MS)) (hk19 : ∀ (y1 : Int32) (σ : MS) , GE X Ω 2 0 0 (emWI) 0 0 19 [(0, .ref 17), (1, .int y1)] [] σ (k19 y1 σ))  (y1 : Int32) (σ : MS)  : GE X Ω 2 0 0 (emWI) 0 0 66 [(0, .ref 17), (1, .int y1)] [] σ (b_X7_read_66  k19 y1 σ) := by
  unfold b_X7_read_66
  refine g_iinc (w := (y1 + (1 : Int32))) (L' := [(1, .int (y1 + (1 : Int32))), (0, .ref 17)]) hX (dc_X7_read 33 rfl) 1 rfl rfl (by decide) rfl ?_
  refine g_goto (tgt := 19) hX (dc_X7_read 34 rfl) (by decide) ?_
  exact g_sub [1, 0] rfl (hk19 ((y1 + (1 : Int32))) σ )
def b_X7_read_19   : Nat → Int32 → MS → Option (Int32 × MS)
  | 0, _, _ => none
  | n + 1, y1, σ => (if (12 : Int32) < y1 then (b_X7_read_72 σ) else (if (sI σ 20 6) = 0 then (f_X7_readTake y1 σ).bind (fun r10 => (f_X7_readClause r10).bind (fun r11 => (if (sI r11 20 6) = 0 then (if (sI r11 20 2) = 0 then some ((0 : Int32), r11) else (b_X7_read_66 (b_X7_read_19  n) (y1) r11)) else (b_X7_read_66 (b_X7_read_19  n) (y1) r11)))) else (b_X7_read_72 σ)))
set_option maxHeartbeats 4000000 in
set_option maxRecDepth 20000 in
theorem c_X7_read_19 {X : CX} {Ω : OM} (hX : CF X Ω RX7 cX7_read 2 (some .int) rm_X7_read) (hO : OKO Ω) (hΩ : oSH Ω = SHX)    : ∀ (n : Nat) (y1 : Int32) (σ : MS) , GE X Ω 2 0 0 (emWI) 0 0 19 [(0, .ref 17), (1, .int y1)] [] σ (b_X7_read_19  n y1 σ)
  | 0, _, _ => g_none
  | n + 1, y1, σ => by
    have hk19 := c_X7_read_19 hX hO hΩ  n
    unfold b_X7_read_19
    refine g_iload_n hX (dc_X7_read 11 rfl) rfl 1 rfl ?_
    refine g_bipush (w := (12 : Int32)) hX (dc_X7_read 12 rfl) (by decide) ?_
    refine g_icmp_gt (tgt := 72) hX (dc_X7_read 13 rfl) (by decide) (fun h8 => ?_) (fun h8 => ?_)
    · exact g_sub [0] rfl (c_X7_read_72 hX hO hΩ σ)
    · refine g_aload_n hX (dc_X7_read 14 rfl) rfl 0 rfl ?_
      refine g_getF (q := 20) hX (dc_X7_read 15 rfl) fl_X7_27 (by decide) rfl (stS hΩ 17 rfl) rfl ?_
      refine g_getI hX (dc_X7_read 16 rfl) fl_X7_41 (by decide) rfl (stS hΩ 20 rfl) ?_
      refine g_if_ne (tgt := 72) hX (dc_X7_read 17 rfl) (by decide) (fun h9 => ?_) (fun h9 => ?_)
      · refine g_aload_n hX (dc_X7_read 18 rfl) rfl 0 rfl ?_
        refine g_iload_n hX (dc_X7_read 19 rfl) rfl 1 rfl ?_
        refine gV_WV (As := [.int y1]) (st := []) hX (dc_X7_read 20 rfl) ml_X7_44 (con_X7_readTake hO hΩ y1 σ) (stS hΩ 17 rfl) rfl rfl ⟨by decide, by decide⟩ ⟨rfl, rfl⟩ ⟨Nat.zero_le _, Nat.zero_le _⟩ (Nat.le_of_ble_eq_true rfl) (fun r10 _ => ?_)
        refine g_aload_n hX (dc_X7_read 21 rfl) rfl 0 rfl ?_
        refine gV_WV (As := []) (st := []) hX (dc_X7_read 22 rfl) ml_X7_48 (con_X7_readClause hO hΩ r10) (stS hΩ 17 rfl) rfl rfl ⟨by decide, by decide⟩ ⟨rfl, rfl⟩ ⟨Nat.zero_le _, Nat.zero_le _⟩ (Nat.le_of_ble_eq_true rfl) (fun r11 _ => ?_)
        refine g_aload_n hX (dc_X7_read 23 rfl) rfl 0 rfl ?_
        refine g_getF (q := 20) hX (dc_X7_read 24 rfl) fl_X7_27 (by decide) rfl (stS hΩ 17 rfl) rfl ?_
        refine g_getI hX (dc_X7_read 25 rfl) fl_X7_41 (by decide) rfl (stS hΩ 20 rfl) ?_
        refine g_if_ne (tgt := 66) hX (dc_X7_read 26 rfl) (by decide) (fun h12 => ?_) (fun h12 => ?_)
        · refine g_aload_n hX (dc_X7_read 27 rfl) rfl 0 rfl ?_
          refine g_getF (q := 20) hX (dc_X7_read 28 rfl) fl_X7_27 (by decide) rfl (stS hΩ 17 rfl) rfl ?_
          refine g_getI hX (dc_X7_read 29 rfl) fl_X7_51 (by decide) rfl (stS hΩ 20 rfl) ?_
          refine g_if_ne (tgt := 66) hX (dc_X7_read 30 rfl) (by decide) (fun h13 => ?_) (fun h13 => ?_)
          · refine g_iconst (w := (0 : Int32)) hX (dc_X7_read 31 rfl) (by decide) ?_
            exact g_iret hX (dc_X7_read 32 rfl) rfl rfl (Nat.le_refl _) (Nat.le_refl _)
          · exact g_sub [0, 1] rfl (c_X7_read_66 hX hO hΩ _ hk19 (y1) r11)
        · exact g_sub [0, 1] rfl (c_X7_read_66 hX hO hΩ _ hk19 (y1) r11)
      · exact g_sub [0] rfl (c_X7_read_72 hX hO hΩ σ)
def b_X7_read_0     (σ : MS) : Option (Int32 × MS) := (f_X4_restart 20 σ).bind (fun r14 => (b_X7_read_19 FU ((0 : Int32)) (wI (wI r14 17 8 (0 : Int32)) 17 6 (0 : Int32))))
set_option maxHeartbeats 4000000 in
set_option maxRecDepth 20000 in
theorem c_X7_read_0 {X : CX} {Ω : OM} (hX : CF X Ω RX7 cX7_read 2 (some .int) rm_X7_read) (hO : OKO Ω) (hΩ : oSH Ω = SHX)      (σ : MS)  : GE X Ω 2 0 0 (emWI) 0 0 0 [(0, .ref 17)] [] σ (b_X7_read_0  σ) := by
  unfold b_X7_read_0
  refine g_aload_n hX (dc_X7_read 0 rfl) rfl 0 rfl ?_
  refine g_getF (q := 20) hX (dc_X7_read 1 rfl) fl_X7_27 (by decide) rfl (stS hΩ 17 rfl) rfl ?_
  refine gV_WV (As := []) (st := []) hX (dc_X7_read 2 rfl) ml_X7_31 (con_X4_restart hO hΩ 20 σ (stR hΩ 20 (by decide))) (stS hΩ 20 rfl) rfl rfl ⟨by decide, by decide⟩ ⟨rfl, rfl⟩ ⟨Nat.zero_le _, Nat.zero_le _⟩ (Nat.le_of_ble_eq_true rfl) (fun r14 _ => ?_)
  refine g_aload_n hX (dc_X7_read 3 rfl) rfl 0 rfl ?_
  refine g_iconst (w := (0 : Int32)) hX (dc_X7_read 4 rfl) (by decide) ?_
  refine g_putI (raw := false) hX (dc_X7_read 5 rfl) fl_X7_34 (by decide) ⟨rfl, rfl⟩ ⟨rfl, rfl⟩ (stS hΩ 17 rfl) ?_
  refine g_aload_n hX (dc_X7_read 6 rfl) rfl 0 rfl ?_
  refine g_iconst (w := (0 : Int32)) hX (dc_X7_read 7 rfl) (by decide) ?_
  refine g_putI (raw := false) hX (dc_X7_read 8 rfl) fl_X7_38 (by decide) ⟨rfl, rfl⟩ ⟨rfl, rfl⟩ (stS hΩ 17 rfl) ?_
  refine g_iconst (w := (0 : Int32)) hX (dc_X7_read 9 rfl) (by decide) ?_
  refine g_istore_n (L' := [(1, .int (0 : Int32)), (0, .ref 17)]) hX (dc_X7_read 10 rfl) rfl (by decide) rfl ?_
  exact g_sub [1, 0] rfl (c_X7_read_19 hX hO hΩ FU ((0 : Int32)) (wI (wI r14 17 8 (0 : Int32)) 17 6 (0 : Int32)))
def f_X7_read  (σ : MS) : Option (Int32 × MS) := b_X7_read_0   σ
theorem con_X7_read {Ω : OM} (hO : OKO Ω) (hΩ : oSH Ω = SHX)  (σ : MS)  : Con Ω yX7_read cX7_read 2 (some .int) rm_X7_read (emWI) [.ref 17] σ (f_X7_read  σ) :=
  con_of hO (by decide +kernel) (Nat.le_of_ble_eq_true rfl) rfl (fun X hX _ => c_X7_read_0 hX hO hΩ    σ )
def it_X8_worksHeldBy : List (Nat × Instr × Nat × Nat) := [(0, .iconst 0, 1, 1), (1, .istore_n 2, 1, 2), (2, .iconst 0, 1, 3), (3, .istore_n 3, 1, 4), (4, .iload_n 3, 1, 5), (5, .bipush 6, 2, 7), (7, .if_icmp .ge 25, 3, 10), (10, .aload_n 0, 1, 11), (11, .getfield 9, 3, 14), (14, .iload_n 3, 1, 15), (15, .iaload, 1, 16), (16, .iload_n 1, 1, 17), (17, .if_icmp .ne 9, 3, 20), (20, .iload_n 2, 1, 21), (21, .iconst 1, 1, 22), (22, .iload_n 3, 1, 23), (23, .ishl, 1, 24), (24, .ior, 1, 25), (25, .istore_n 2, 1, 26), (26, .iinc 3 1, 3, 29), (29, .goto (-25), 3, 32), (32, .iload_n 2, 1, 33), (33, .ireturn, 1, 34)]
theorem id_X8_worksHeldBy : ∀ q ∈ it_X8_worksHeldBy, decode cX8_worksHeldBy q.1 = .ok (q.2.1, q.2.2.1) ∧ q.1 + q.2.2.1 = q.2.2.2 := by decide +kernel
theorem dc_X8_worksHeldBy {pc : Nat} {i : Instr} {n pc' : Nat} (j : Nat) (h : it_X8_worksHeldBy[j]? = some (pc, i, n, pc')) : Dc cX8_worksHeldBy pc i n pc' := dc_of id_X8_worksHeldBy j h
abbrev rm_X8_worksHeldBy : Room := { frames := 0, cells := 0, slots := 0, locals := 0 }
def b_X8_worksHeldBy_26 (a0 : Nat) (k4 : Int32 → Int32 → Int32 → MS → Option (Int32))  (y1 : Int32) (y2 : Int32) (y3 : Int32) (σ : MS) : Option (Int32) := (k4 (y1) (y2) ((y3 + (1 : Int32))) σ)
set_option maxHeartbeats 4000000 in
set_option maxRecDepth 20000 in
theorem c_X8_worksHeldBy_26 {X : CX} {Ω : OM} (hX : CF X Ω RX8 cX8_worksHeldBy 4 (some .int) rm_X8_worksHeldBy) (hO : OKO Ω) (hΩ : oSH Ω = SHX) (a0 : Nat) (ha0 : sRt Ω a0 shState) (σ : MS) (k4 : Int32 → Int32 → Int32 → MS → Option (Int32)) (hk4 : ∀ (y1 : Int32) (y2 : Int32) (y3 : Int32), GE X Ω 4 0 0 (emPI σ) 0 0 4 [(0, .ref a0), (1, .int y1), (2, .int y2), (3, .int y3)] [] σ (k4 y1 y2 y3 σ))  (y1 : Int32) (y2 : Int32) (y3 : Int32)   : GE X Ω 4 0 0 (emPI σ) 0 0 26 [(0, .ref a0), (1, .int y1), (2, .int y2), (3, .int y3)] [] σ (b_X8_worksHeldBy_26 a0 k4 y1 y2 y3 σ) := by
  unfold b_X8_worksHeldBy_26
  refine g_iinc (w := (y3 + (1 : Int32))) (L' := [(3, .int (y3 + (1 : Int32))), (0, .ref a0), (1, .int y1), (2, .int y2)]) hX (dc_X8_worksHeldBy 19 rfl) 3 rfl rfl (by decide) rfl ?_
  refine g_goto (tgt := 4) hX (dc_X8_worksHeldBy 20 rfl) (by decide) ?_
  exact g_sub [1, 2, 3, 0] rfl (hk4 (y1) (y2) ((y3 + (1 : Int32))) )
def b_X8_worksHeldBy_4 (a0 : Nat)  : Nat → Int32 → Int32 → Int32 → MS → Option (Int32)
  | 0, _, _, _, _ => none
  | n + 1, y1, y2, y3, σ => (if (6 : Int32) ≤ y3 then some y2 else chk (inb y3 6) ((if (sI σ (a0 + 1) (ix y3)) = y1 then (b_X8_worksHeldBy_26 a0 (b_X8_worksHeldBy_4 a0 n) (y1) ((y2 ||| ((1 : Int32) <<< (y3 &&& 31)))) (y3) σ) else (b_X8_worksHeldBy_26 a0 (b_X8_worksHeldBy_4 a0 n) (y1) (y2) (y3) σ))))
set_option maxHeartbeats 4000000 in
set_option maxRecDepth 20000 in
theorem c_X8_worksHeldBy_4 {X : CX} {Ω : OM} (hX : CF X Ω RX8 cX8_worksHeldBy 4 (some .int) rm_X8_worksHeldBy) (hO : OKO Ω) (hΩ : oSH Ω = SHX) (a0 : Nat) (ha0 : sRt Ω a0 shState) (σ : MS)  : ∀ (n : Nat) (y1 : Int32) (y2 : Int32) (y3 : Int32)  , GE X Ω 4 0 0 (emPI σ) 0 0 4 [(0, .ref a0), (1, .int y1), (2, .int y2), (3, .int y3)] [] σ (b_X8_worksHeldBy_4 a0 n y1 y2 y3 σ)
  | 0, _, _, _ => g_none
  | n + 1, y1, y2, y3 => by
    have hk4 := c_X8_worksHeldBy_4 hX hO hΩ a0 ha0 σ n
    unfold b_X8_worksHeldBy_4
    refine g_iload_n hX (dc_X8_worksHeldBy 4 rfl) rfl 3 rfl ?_
    refine g_bipush (w := (6 : Int32)) hX (dc_X8_worksHeldBy 5 rfl) (by decide) ?_
    refine g_icmp_ge (tgt := 32) hX (dc_X8_worksHeldBy 6 rfl) (by decide) (fun h4 => ?_) (fun h4 => ?_)
    · refine g_iload_n hX (dc_X8_worksHeldBy 21 rfl) rfl 2 rfl ?_
      exact g_iret hX (dc_X8_worksHeldBy 22 rfl) rfl rfl (Nat.le_refl _) (Nat.le_refl _)
    · refine g_aload_n hX (dc_X8_worksHeldBy 7 rfl) rfl 0 rfl ?_
      refine g_getF (q := (a0 + 1)) hX (dc_X8_worksHeldBy 8 rfl) fl_X8_9 (by decide) rfl (ha0.tf 0 rfl) rfl ?_
      refine g_iload_n hX (dc_X8_worksHeldBy 9 rfl) rfl 3 rfl ?_
      refine g_chk (fun hc5 => ?_)
      refine g_iald hX (dc_X8_worksHeldBy 10 rfl) (ha0.tf 1 rfl) hc5 rfl ?_
      refine g_iload_n hX (dc_X8_worksHeldBy 11 rfl) rfl 1 rfl ?_
      refine g_icmp_ne (tgt := 26) hX (dc_X8_worksHeldBy 12 rfl) (by decide) (fun h6 => ?_) (fun h6 => ?_)
      · refine g_iload_n hX (dc_X8_worksHeldBy 13 rfl) rfl 2 rfl ?_
        refine g_iconst (w := (1 : Int32)) hX (dc_X8_worksHeldBy 14 rfl) (by decide) ?_
        refine g_iload_n hX (dc_X8_worksHeldBy 15 rfl) rfl 3 rfl ?_
        refine g_ishl hX (dc_X8_worksHeldBy 16 rfl) ?_
        refine g_ior hX (dc_X8_worksHeldBy 17 rfl) ?_
        refine g_istore_n (L' := [(2, .int (y2 ||| ((1 : Int32) <<< (y3 &&& 31)))), (0, .ref a0), (1, .int y1), (3, .int y3)]) hX (dc_X8_worksHeldBy 18 rfl) rfl (by decide) rfl ?_
        exact g_sub [1, 2, 0, 3] rfl (c_X8_worksHeldBy_26 hX hO hΩ a0 ha0 σ _ hk4 (y1) ((y2 ||| ((1 : Int32) <<< (y3 &&& 31)))) (y3))
      · exact g_sub [0, 1, 2, 3] rfl (c_X8_worksHeldBy_26 hX hO hΩ a0 ha0 σ _ hk4 (y1) (y2) (y3))
def b_X8_worksHeldBy_0 (a0 : Nat)  (x1 : Int32)  (σ : MS) : Option (Int32) := (b_X8_worksHeldBy_4 a0 FU (x1) ((0 : Int32)) ((0 : Int32)) σ)
set_option maxHeartbeats 4000000 in
set_option maxRecDepth 20000 in
theorem c_X8_worksHeldBy_0 {X : CX} {Ω : OM} (hX : CF X Ω RX8 cX8_worksHeldBy 4 (some .int) rm_X8_worksHeldBy) (hO : OKO Ω) (hΩ : oSH Ω = SHX) (a0 : Nat) (ha0 : sRt Ω a0 shState) (σ : MS)  (x1 : Int32)    : GE X Ω 4 0 0 (emPI σ) 0 0 0 [(0, .ref a0), (1, .int x1)] [] σ (b_X8_worksHeldBy_0 a0 x1 σ) := by
  unfold b_X8_worksHeldBy_0
  refine g_iconst (w := (0 : Int32)) hX (dc_X8_worksHeldBy 0 rfl) (by decide) ?_
  refine g_istore_n (L' := [(2, .int (0 : Int32)), (0, .ref a0), (1, .int x1)]) hX (dc_X8_worksHeldBy 1 rfl) rfl (by decide) rfl ?_
  refine g_iconst (w := (0 : Int32)) hX (dc_X8_worksHeldBy 2 rfl) (by decide) ?_
  refine g_istore_n (L' := [(3, .int (0 : Int32)), (2, .int (0 : Int32)), (0, .ref a0), (1, .int x1)]) hX (dc_X8_worksHeldBy 3 rfl) rfl (by decide) rfl ?_
  exact g_sub [2, 3, 1, 0] rfl (c_X8_worksHeldBy_4 hX hO hΩ a0 ha0 σ FU (x1) ((0 : Int32)) ((0 : Int32)))
def f_X8_worksHeldBy (a0 : Nat) (x1 : Int32) (σ : MS) : Option (Int32) := b_X8_worksHeldBy_0 a0 x1 σ
theorem con_X8_worksHeldBy {Ω : OM} (hO : OKO Ω) (hΩ : oSH Ω = SHX) (a0 : Nat) (x1 : Int32) (σ : MS) (ha0 : sRt Ω a0 shState) : Con Ω yX8_worksHeldBy cX8_worksHeldBy 4 (some .int) rm_X8_worksHeldBy (emPI σ) [.ref a0, .int x1] σ (f_X8_worksHeldBy a0 x1 σ) :=
  con_of hO (by decide +kernel) (Nat.le_of_ble_eq_true rfl) rfl (fun X hX _ => c_X8_worksHeldBy_0 hX hO hΩ a0 ha0 σ x1)
def it_X8_worksThatGo : List (Nat × Instr × Nat × Nat) := [(0, .iconst 0, 1, 1), (1, .istore_n 1, 1, 2), (2, .iconst 0, 1, 3), (3, .istore_n 2, 1, 4), (4, .iload_n 2, 1, 5), (5, .bipush 6, 2, 7), (7, .if_icmp .ge 25, 3, 10), (10, .aload_n 0, 1, 11), (11, .getfield 9, 3, 14), (14, .iload_n 2, 1, 15), (15, .iaload, 1, 16), (16, .iconst (-1), 1, 17), (17, .if_icmp .eq 9, 3, 20), (20, .iload_n 1, 1, 21), (21, .iconst 1, 1, 22), (22, .iload_n 2, 1, 23), (23, .ishl, 1, 24), (24, .ior, 1, 25), (25, .istore_n 1, 1, 26), (26, .iinc 2 1, 3, 29), (29, .goto (-25), 3, 32), (32, .iload_n 1, 1, 33), (33, .ireturn, 1, 34)]
theorem id_X8_worksThatGo : ∀ q ∈ it_X8_worksThatGo, decode cX8_worksThatGo q.1 = .ok (q.2.1, q.2.2.1) ∧ q.1 + q.2.2.1 = q.2.2.2 := by decide +kernel
theorem dc_X8_worksThatGo {pc : Nat} {i : Instr} {n pc' : Nat} (j : Nat) (h : it_X8_worksThatGo[j]? = some (pc, i, n, pc')) : Dc cX8_worksThatGo pc i n pc' := dc_of id_X8_worksThatGo j h
abbrev rm_X8_worksThatGo : Room := { frames := 0, cells := 0, slots := 0, locals := 0 }
def b_X8_worksThatGo_26 (a0 : Nat) (k4 : Int32 → Int32 → MS → Option (Int32))  (y1 : Int32) (y2 : Int32) (σ : MS) : Option (Int32) := (k4 (y1) ((y2 + (1 : Int32))) σ)
set_option maxHeartbeats 4000000 in
set_option maxRecDepth 20000 in
theorem c_X8_worksThatGo_26 {X : CX} {Ω : OM} (hX : CF X Ω RX8 cX8_worksThatGo 3 (some .int) rm_X8_worksThatGo) (hO : OKO Ω) (hΩ : oSH Ω = SHX) (a0 : Nat) (ha0 : sRt Ω a0 shState) (σ : MS) (k4 : Int32 → Int32 → MS → Option (Int32)) (hk4 : ∀ (y1 : Int32) (y2 : Int32), GE X Ω 3 0 0 (emPI σ) 0 0 4 [(0, .ref a0), (1, .int y1), (2, .int y2)] [] σ (k4 y1 y2 σ))  (y1 : Int32) (y2 : Int32)   : GE X Ω 3 0 0 (emPI σ) 0 0 26 [(0, .ref a0), (1, .int y1), (2, .int y2)] [] σ (b_X8_worksThatGo_26 a0 k4 y1 y2 σ) := by
  unfold b_X8_worksThatGo_26
  refine g_iinc (w := (y2 + (1 : Int32))) (L' := [(2, .int (y2 + (1 : Int32))), (0, .ref a0), (1, .int y1)]) hX (dc_X8_worksThatGo 19 rfl) 2 rfl rfl (by decide) rfl ?_
  refine g_goto (tgt := 4) hX (dc_X8_worksThatGo 20 rfl) (by decide) ?_
  exact g_sub [1, 2, 0] rfl (hk4 (y1) ((y2 + (1 : Int32))) )
def b_X8_worksThatGo_4 (a0 : Nat)  : Nat → Int32 → Int32 → MS → Option (Int32)
  | 0, _, _, _ => none
  | n + 1, y1, y2, σ => (if (6 : Int32) ≤ y2 then some y1 else chk (inb y2 6) ((if (sI σ (a0 + 1) (ix y2)) = (-1 : Int32) then (b_X8_worksThatGo_26 a0 (b_X8_worksThatGo_4 a0 n) (y1) (y2) σ) else (b_X8_worksThatGo_26 a0 (b_X8_worksThatGo_4 a0 n) ((y1 ||| ((1 : Int32) <<< (y2 &&& 31)))) (y2) σ))))
set_option maxHeartbeats 4000000 in
set_option maxRecDepth 20000 in
theorem c_X8_worksThatGo_4 {X : CX} {Ω : OM} (hX : CF X Ω RX8 cX8_worksThatGo 3 (some .int) rm_X8_worksThatGo) (hO : OKO Ω) (hΩ : oSH Ω = SHX) (a0 : Nat) (ha0 : sRt Ω a0 shState) (σ : MS)  : ∀ (n : Nat) (y1 : Int32) (y2 : Int32)  , GE X Ω 3 0 0 (emPI σ) 0 0 4 [(0, .ref a0), (1, .int y1), (2, .int y2)] [] σ (b_X8_worksThatGo_4 a0 n y1 y2 σ)
  | 0, _, _ => g_none
  | n + 1, y1, y2 => by
    have hk4 := c_X8_worksThatGo_4 hX hO hΩ a0 ha0 σ n
    unfold b_X8_worksThatGo_4
    refine g_iload_n hX (dc_X8_worksThatGo 4 rfl) rfl 2 rfl ?_
    refine g_bipush (w := (6 : Int32)) hX (dc_X8_worksThatGo 5 rfl) (by decide) ?_
    refine g_icmp_ge (tgt := 32) hX (dc_X8_worksThatGo 6 rfl) (by decide) (fun h4 => ?_) (fun h4 => ?_)
    · refine g_iload_n hX (dc_X8_worksThatGo 21 rfl) rfl 1 rfl ?_
      exact g_iret hX (dc_X8_worksThatGo 22 rfl) rfl rfl (Nat.le_refl _) (Nat.le_refl _)
    · refine g_aload_n hX (dc_X8_worksThatGo 7 rfl) rfl 0 rfl ?_
      refine g_getF (q := (a0 + 1)) hX (dc_X8_worksThatGo 8 rfl) fl_X8_9 (by decide) rfl (ha0.tf 0 rfl) rfl ?_
      refine g_iload_n hX (dc_X8_worksThatGo 9 rfl) rfl 2 rfl ?_
      refine g_chk (fun hc5 => ?_)
      refine g_iald hX (dc_X8_worksThatGo 10 rfl) (ha0.tf 1 rfl) hc5 rfl ?_
      refine g_iconst (w := (-1 : Int32)) hX (dc_X8_worksThatGo 11 rfl) (by decide) ?_
      refine g_icmp_eq (tgt := 26) hX (dc_X8_worksThatGo 12 rfl) (by decide) (fun h6 => ?_) (fun h6 => ?_)
      · exact g_sub [0, 1, 2] rfl (c_X8_worksThatGo_26 hX hO hΩ a0 ha0 σ _ hk4 (y1) (y2))
      · refine g_iload_n hX (dc_X8_worksThatGo 13 rfl) rfl 1 rfl ?_
        refine g_iconst (w := (1 : Int32)) hX (dc_X8_worksThatGo 14 rfl) (by decide) ?_
        refine g_iload_n hX (dc_X8_worksThatGo 15 rfl) rfl 2 rfl ?_
        refine g_ishl hX (dc_X8_worksThatGo 16 rfl) ?_
        refine g_ior hX (dc_X8_worksThatGo 17 rfl) ?_
        refine g_istore_n (L' := [(1, .int (y1 ||| ((1 : Int32) <<< (y2 &&& 31)))), (0, .ref a0), (2, .int y2)]) hX (dc_X8_worksThatGo 18 rfl) rfl (by decide) rfl ?_
        exact g_sub [1, 0, 2] rfl (c_X8_worksThatGo_26 hX hO hΩ a0 ha0 σ _ hk4 ((y1 ||| ((1 : Int32) <<< (y2 &&& 31)))) (y2))
def b_X8_worksThatGo_0 (a0 : Nat)    (σ : MS) : Option (Int32) := (b_X8_worksThatGo_4 a0 FU ((0 : Int32)) ((0 : Int32)) σ)
set_option maxHeartbeats 4000000 in
set_option maxRecDepth 20000 in
theorem c_X8_worksThatGo_0 {X : CX} {Ω : OM} (hX : CF X Ω RX8 cX8_worksThatGo 3 (some .int) rm_X8_worksThatGo) (hO : OKO Ω) (hΩ : oSH Ω = SHX) (a0 : Nat) (ha0 : sRt Ω a0 shState) (σ : MS)      : GE X Ω 3 0 0 (emPI σ) 0 0 0 [(0, .ref a0)] [] σ (b_X8_worksThatGo_0 a0 σ) := by
  unfold b_X8_worksThatGo_0
  refine g_iconst (w := (0 : Int32)) hX (dc_X8_worksThatGo 0 rfl) (by decide) ?_
  refine g_istore_n (L' := [(1, .int (0 : Int32)), (0, .ref a0)]) hX (dc_X8_worksThatGo 1 rfl) rfl (by decide) rfl ?_
  refine g_iconst (w := (0 : Int32)) hX (dc_X8_worksThatGo 2 rfl) (by decide) ?_
  refine g_istore_n (L' := [(2, .int (0 : Int32)), (1, .int (0 : Int32)), (0, .ref a0)]) hX (dc_X8_worksThatGo 3 rfl) rfl (by decide) rfl ?_
  exact g_sub [2, 1, 0] rfl (c_X8_worksThatGo_4 hX hO hΩ a0 ha0 σ FU ((0 : Int32)) ((0 : Int32)))
def f_X8_worksThatGo (a0 : Nat) (σ : MS) : Option (Int32) := b_X8_worksThatGo_0 a0  σ
theorem con_X8_worksThatGo {Ω : OM} (hO : OKO Ω) (hΩ : oSH Ω = SHX) (a0 : Nat) (σ : MS) (ha0 : sRt Ω a0 shState) : Con Ω yX8_worksThatGo cX8_worksThatGo 3 (some .int) rm_X8_worksThatGo (emPI σ) [.ref a0] σ (f_X8_worksThatGo a0 σ) :=
  con_of hO (by decide +kernel) (Nat.le_of_ble_eq_true rfl) rfl (fun X hX _ => c_X8_worksThatGo_0 hX hO hΩ a0 ha0 σ )
def it_X8_allPurses : List (Nat × Instr × Nat × Nat) := [(0, .iconst 0, 1, 1), (1, .istore_n 1, 1, 2), (2, .iconst 0, 1, 3), (3, .istore_n 2, 1, 4), (4, .iload_n 2, 1, 5), (5, .iconst 4, 1, 6), (6, .if_icmp .ge 18, 3, 9), (9, .iload_n 1, 1, 10), (10, .aload_n 0, 1, 11), (11, .getfield 18, 3, 14), (14, .iload_n 2, 1, 15), (15, .iaload, 1, 16), (16, .iadd, 1, 17), (17, .istore_n 1, 1, 18), (18, .iinc 2 1, 3, 21), (21, .goto (-17), 3, 24), (24, .iload_n 1, 1, 25), (25, .ireturn, 1, 26)]
theorem id_X8_allPurses : ∀ q ∈ it_X8_allPurses, decode cX8_allPurses q.1 = .ok (q.2.1, q.2.2.1) ∧ q.1 + q.2.2.1 = q.2.2.2 := by decide +kernel
theorem dc_X8_allPurses {pc : Nat} {i : Instr} {n pc' : Nat} (j : Nat) (h : it_X8_allPurses[j]? = some (pc, i, n, pc')) : Dc cX8_allPurses pc i n pc' := dc_of id_X8_allPurses j h
abbrev rm_X8_allPurses : Room := { frames := 0, cells := 0, slots := 0, locals := 0 }
def b_X8_allPurses_4 (a0 : Nat)  : Nat → Int32 → Int32 → MS → Option (Int32)
  | 0, _, _, _ => none
  | n + 1, y1, y2, σ => (if (4 : Int32) ≤ y2 then some y1 else chk (inb y2 4) (((b_X8_allPurses_4 a0 n) ((y1 + (sI σ (a0 + 3) (ix y2)))) ((y2 + (1 : Int32))) σ)))
set_option maxHeartbeats 4000000 in
set_option maxRecDepth 20000 in
theorem c_X8_allPurses_4 {X : CX} {Ω : OM} (hX : CF X Ω RX8 cX8_allPurses 3 (some .int) rm_X8_allPurses) (hO : OKO Ω) (hΩ : oSH Ω = SHX) (a0 : Nat) (ha0 : sRt Ω a0 shState) (σ : MS)  : ∀ (n : Nat) (y1 : Int32) (y2 : Int32)  , GE X Ω 3 0 0 (emPI σ) 0 0 4 [(0, .ref a0), (1, .int y1), (2, .int y2)] [] σ (b_X8_allPurses_4 a0 n y1 y2 σ)
  | 0, _, _ => g_none
  | n + 1, y1, y2 => by
    have hk4 := c_X8_allPurses_4 hX hO hΩ a0 ha0 σ n
    unfold b_X8_allPurses_4
    refine g_iload_n hX (dc_X8_allPurses 4 rfl) rfl 2 rfl ?_
    refine g_iconst (w := (4 : Int32)) hX (dc_X8_allPurses 5 rfl) (by decide) ?_
    refine g_icmp_ge (tgt := 24) hX (dc_X8_allPurses 6 rfl) (by decide) (fun h3 => ?_) (fun h3 => ?_)
    · refine g_iload_n hX (dc_X8_allPurses 16 rfl) rfl 1 rfl ?_
      exact g_iret hX (dc_X8_allPurses 17 rfl) rfl rfl (Nat.le_refl _) (Nat.le_refl _)
    · refine g_iload_n hX (dc_X8_allPurses 7 rfl) rfl 1 rfl ?_
      refine g_aload_n hX (dc_X8_allPurses 8 rfl) rfl 0 rfl ?_
      refine g_getF (q := (a0 + 3)) hX (dc_X8_allPurses 9 rfl) fl_X8_18 (by decide) rfl (ha0.tf 0 rfl) rfl ?_
      refine g_iload_n hX (dc_X8_allPurses 10 rfl) rfl 2 rfl ?_
      refine g_chk (fun hc4 => ?_)
      refine g_iald hX (dc_X8_allPurses 11 rfl) (ha0.tf 3 rfl) hc4 rfl ?_
      refine g_iadd hX (dc_X8_allPurses 12 rfl) ?_
      refine g_istore_n (L' := [(1, .int (y1 + (sI σ (a0 + 3) (ix y2)))), (0, .ref a0), (2, .int y2)]) hX (dc_X8_allPurses 13 rfl) rfl (by decide) rfl ?_
      refine g_iinc (w := (y2 + (1 : Int32))) (L' := [(2, .int (y2 + (1 : Int32))), (1, .int (y1 + (sI σ (a0 + 3) (ix y2)))), (0, .ref a0)]) hX (dc_X8_allPurses 14 rfl) 2 rfl rfl (by decide) rfl ?_
      refine g_goto (tgt := 4) hX (dc_X8_allPurses 15 rfl) (by decide) ?_
      exact g_sub [2, 1, 0] rfl (hk4 ((y1 + (sI σ (a0 + 3) (ix y2)))) ((y2 + (1 : Int32))) )
def b_X8_allPurses_0 (a0 : Nat)    (σ : MS) : Option (Int32) := (b_X8_allPurses_4 a0 FU ((0 : Int32)) ((0 : Int32)) σ)
set_option maxHeartbeats 4000000 in
set_option maxRecDepth 20000 in
theorem c_X8_allPurses_0 {X : CX} {Ω : OM} (hX : CF X Ω RX8 cX8_allPurses 3 (some .int) rm_X8_allPurses) (hO : OKO Ω) (hΩ : oSH Ω = SHX) (a0 : Nat) (ha0 : sRt Ω a0 shState) (σ : MS)      : GE X Ω 3 0 0 (emPI σ) 0 0 0 [(0, .ref a0)] [] σ (b_X8_allPurses_0 a0 σ) := by
  unfold b_X8_allPurses_0
  refine g_iconst (w := (0 : Int32)) hX (dc_X8_allPurses 0 rfl) (by decide) ?_
  refine g_istore_n (L' := [(1, .int (0 : Int32)), (0, .ref a0)]) hX (dc_X8_allPurses 1 rfl) rfl (by decide) rfl ?_
  refine g_iconst (w := (0 : Int32)) hX (dc_X8_allPurses 2 rfl) (by decide) ?_
  refine g_istore_n (L' := [(2, .int (0 : Int32)), (1, .int (0 : Int32)), (0, .ref a0)]) hX (dc_X8_allPurses 3 rfl) rfl (by decide) rfl ?_
  exact g_sub [2, 1, 0] rfl (c_X8_allPurses_4 hX hO hΩ a0 ha0 σ FU ((0 : Int32)) ((0 : Int32)))
def f_X8_allPurses (a0 : Nat) (σ : MS) : Option (Int32) := b_X8_allPurses_0 a0  σ
theorem con_X8_allPurses {Ω : OM} (hO : OKO Ω) (hΩ : oSH Ω = SHX) (a0 : Nat) (σ : MS) (ha0 : sRt Ω a0 shState) : Con Ω yX8_allPurses cX8_allPurses 3 (some .int) rm_X8_allPurses (emPI σ) [.ref a0] σ (f_X8_allPurses a0 σ) :=
  con_of hO (by decide +kernel) (Nat.le_of_ble_eq_true rfl) rfl (fun X hX _ => c_X8_allPurses_0 hX hO hΩ a0 ha0 σ )
def it_X8_layGoing : List (Nat × Instr × Nat × Nat) := [(0, .iload_n 1, 1, 1), (1, .istore_n 2, 1, 2), (2, .iconst 0, 1, 3), (3, .istore_n 3, 1, 4), (4, .iload_n 3, 1, 5), (5, .bipush 6, 2, 7), (7, .if_icmp .ge 32, 3, 10), (10, .aload_n 0, 1, 11), (11, .getfield 9, 3, 14), (14, .iload_n 3, 1, 15), (15, .iaload, 1, 16), (16, .iconst (-1), 1, 17), (17, .if_icmp .eq 16, 3, 20), (20, .iload_n 2, 1, 21), (21, .ifCond .ne 9, 3, 24), (24, .aload_n 0, 1, 25), (25, .iload_n 3, 1, 26), (26, .invokevirtual 43, 3, 29), (29, .return_, 1, 30), (30, .iinc 2 (-1), 3, 33), (33, .iinc 3 1, 3, 36), (36, .goto (-32), 3, 39), (39, .return_, 1, 40)]
theorem id_X8_layGoing : ∀ q ∈ it_X8_layGoing, decode cX8_layGoing q.1 = .ok (q.2.1, q.2.2.1) ∧ q.1 + q.2.2.1 = q.2.2.2 := by decide +kernel
theorem dc_X8_layGoing {pc : Nat} {i : Instr} {n pc' : Nat} (j : Nat) (h : it_X8_layGoing[j]? = some (pc, i, n, pc')) : Dc cX8_layGoing pc i n pc' := dc_of id_X8_layGoing j h
abbrev rm_X8_layGoing : Room := { frames := 1, cells := 0, slots := 0, locals := 21 }
def b_X8_layGoing_33 (a0 : Nat) (k4 : Int32 → Int32 → MS → Option (MS))  (y2 : Int32) (y3 : Int32) (σ : MS) : Option (MS) := (k4 (y2) ((y3 + (1 : Int32))) σ)
set_option maxHeartbeats 4000000 in
set_option maxRecDepth 20000 in
theorem c_X8_layGoing_33 {X : CX} {Ω : OM} (hX : CF X Ω RX8 cX8_layGoing 4 none rm_X8_layGoing) (hO : OKO Ω) (hΩ : oSH Ω = SHX) (a0 : Nat) (ha0 : sRt Ω a0 shState) (k4 : Int32 → Int32 → MS → Option (MS)) (hk4 : ∀ (y2 : Int32) (y3 : Int32) (σ : MS) , GE X Ω 4 0 0 (emWV) 0 0 4 [(0, .ref a0), (2, .int y2), (3, .int y3)] [] σ (k4 y2 y3 σ))  (y2 : Int32) (y3 : Int32) (σ : MS)  : GE X Ω 4 0 0 (emWV) 0 0 33 [(0, .ref a0), (2, .int y2), (3, .int y3)] [] σ (b_X8_layGoing_33 a0 k4 y2 y3 σ) := by
  unfold b_X8_layGoing_33
  refine g_iinc (w := (y3 + (1 : Int32))) (L' := [(3, .int (y3 + (1 : Int32))), (0, .ref a0), (2, .int y2)]) hX (dc_X8_layGoing 20 rfl) 2 rfl rfl (by decide) rfl ?_
  refine g_goto (tgt := 4) hX (dc_X8_layGoing 21 rfl) (by decide) ?_
  exact g_sub [1, 2, 0] rfl (hk4 (y2) ((y3 + (1 : Int32))) σ )
def b_X8_layGoing_4 (a0 : Nat)  : Nat → Int32 → Int32 → MS → Option (MS)
  | 0, _, _, _ => none
  | n + 1, y2, y3, σ => (if (6 : Int32) ≤ y3 then some (σ) else chk (inb y3 6) ((if (sI σ (a0 + 1) (ix y3)) = (-1 : Int32) then (b_X8_layGoing_33 a0 (b_X8_layGoing_4 a0 n) (y2) (y3) σ) else (if y2 = 0 then (f_X8_lay a0 y3 σ).bind (fun r10 => some (r10)) else (b_X8_layGoing_33 a0 (b_X8_layGoing_4 a0 n) ((y2 + (-1 : Int32))) (y3) σ)))))
set_option maxHeartbeats 4000000 in
set_option maxRecDepth 20000 in
theorem c_X8_layGoing_4 {X : CX} {Ω : OM} (hX : CF X Ω RX8 cX8_layGoing 4 none rm_X8_layGoing) (hO : OKO Ω) (hΩ : oSH Ω = SHX) (a0 : Nat) (ha0 : sRt Ω a0 shState)  : ∀ (n : Nat) (y2 : Int32) (y3 : Int32) (σ : MS) , GE X Ω 4 0 0 (emWV) 0 0 4 [(0, .ref a0), (2, .int y2), (3, .int y3)] [] σ (b_X8_layGoing_4 a0 n y2 y3 σ)
  | 0, _, _, _ => g_none
  | n + 1, y2, y3, σ => by
    have hk4 := c_X8_layGoing_4 hX hO hΩ a0 ha0 n
    unfold b_X8_layGoing_4
    refine g_iload_n hX (dc_X8_layGoing 4 rfl) rfl 2 rfl ?_
    refine g_bipush (w := (6 : Int32)) hX (dc_X8_layGoing 5 rfl) (by decide) ?_
    refine g_icmp_ge (tgt := 39) hX (dc_X8_layGoing 6 rfl) (by decide) (fun h6 => ?_) (fun h6 => ?_)
    · exact g_vret hX (dc_X8_layGoing 22 rfl) rfl (Nat.le_refl _) (Nat.le_refl _)
    · refine g_aload_n hX (dc_X8_layGoing 7 rfl) rfl 0 rfl ?_
      refine g_getF (q := (a0 + 1)) hX (dc_X8_layGoing 8 rfl) fl_X8_9 (by decide) rfl (ha0.tf 0 rfl) rfl ?_
      refine g_iload_n hX (dc_X8_layGoing 9 rfl) rfl 2 rfl ?_
      refine g_chk (fun hc7 => ?_)
      refine g_iald hX (dc_X8_layGoing 10 rfl) (ha0.tf 1 rfl) hc7 rfl ?_
      refine g_iconst (w := (-1 : Int32)) hX (dc_X8_layGoing 11 rfl) (by decide) ?_
      refine g_icmp_eq (tgt := 33) hX (dc_X8_layGoing 12 rfl) (by decide) (fun h8 => ?_) (fun h8 => ?_)
      · exact g_sub [0, 1, 2] rfl (c_X8_layGoing_33 hX hO hΩ a0 ha0 _ hk4 (y2) (y3) σ)
      · refine g_iload_n hX (dc_X8_layGoing 13 rfl) rfl 1 rfl ?_
        refine g_if_ne (tgt := 30) hX (dc_X8_layGoing 14 rfl) (by decide) (fun h9 => ?_) (fun h9 => ?_)
        · refine g_aload_n hX (dc_X8_layGoing 15 rfl) rfl 0 rfl ?_
          refine g_iload_n hX (dc_X8_layGoing 16 rfl) rfl 2 rfl ?_
          refine gV_WV (As := [.int y3]) (st := []) hX (dc_X8_layGoing 17 rfl) ml_X8_43 (con_X8_lay hO hΩ a0 y3 σ ha0) (ha0.tf 0 rfl) rfl rfl ⟨by decide, by decide⟩ ⟨rfl, rfl⟩ ⟨Nat.zero_le _, Nat.zero_le _⟩ (Nat.le_of_ble_eq_true rfl) (fun r10 _ => ?_)
          exact g_vret hX (dc_X8_layGoing 18 rfl) rfl (Nat.le_refl _) (Nat.le_refl _)
        · refine g_iinc (w := (y2 + (-1 : Int32))) (L' := [(2, .int (y2 + (-1 : Int32))), (0, .ref a0), (3, .int y3)]) hX (dc_X8_layGoing 19 rfl) 1 rfl rfl (by decide) rfl ?_
          exact g_sub [1, 0, 2] rfl (c_X8_layGoing_33 hX hO hΩ a0 ha0 _ hk4 ((y2 + (-1 : Int32))) (y3) σ)
def b_X8_layGoing_0 (a0 : Nat)  (x1 : Int32)  (σ : MS) : Option (MS) := (b_X8_layGoing_4 a0 FU (x1) ((0 : Int32)) σ)
set_option maxHeartbeats 4000000 in
set_option maxRecDepth 20000 in
theorem c_X8_layGoing_0 {X : CX} {Ω : OM} (hX : CF X Ω RX8 cX8_layGoing 4 none rm_X8_layGoing) (hO : OKO Ω) (hΩ : oSH Ω = SHX) (a0 : Nat) (ha0 : sRt Ω a0 shState)  (x1 : Int32)  (σ : MS)  : GE X Ω 4 0 0 (emWV) 0 0 0 [(0, .ref a0), (1, .int x1)] [] σ (b_X8_layGoing_0 a0 x1 σ) := by
  unfold b_X8_layGoing_0
  refine g_iload_n hX (dc_X8_layGoing 0 rfl) rfl 1 rfl ?_
  refine g_istore_n (L' := [(2, .int x1), (0, .ref a0), (1, .int x1)]) hX (dc_X8_layGoing 1 rfl) rfl (by decide) rfl ?_
  refine g_iconst (w := (0 : Int32)) hX (dc_X8_layGoing 2 rfl) (by decide) ?_
  refine g_istore_n (L' := [(3, .int (0 : Int32)), (2, .int x1), (0, .ref a0), (1, .int x1)]) hX (dc_X8_layGoing 3 rfl) rfl (by decide) rfl ?_
  exact g_sub [2, 1, 0] rfl (c_X8_layGoing_4 hX hO hΩ a0 ha0 FU (x1) ((0 : Int32)) σ)
def f_X8_layGoing (a0 : Nat) (x1 : Int32) (σ : MS) : Option (MS) := b_X8_layGoing_0 a0 x1 σ
theorem con_X8_layGoing {Ω : OM} (hO : OKO Ω) (hΩ : oSH Ω = SHX) (a0 : Nat) (x1 : Int32) (σ : MS) (ha0 : sRt Ω a0 shState) : Con Ω yX8_layGoing cX8_layGoing 4 none rm_X8_layGoing (emWV) [.ref a0, .int x1] σ (f_X8_layGoing a0 x1 σ) :=
  con_of hO (by decide +kernel) (Nat.le_of_ble_eq_true rfl) rfl (fun X hX _ => c_X8_layGoing_0 hX hO hΩ a0 ha0 x1 σ )
def it_X9_hasRoom : List (Nat × Instr × Nat × Nat) := [(0, .aload_n 0, 1, 1), (1, .getfield 13, 3, 4), (4, .iload_n 1, 1, 5), (5, .iadd, 1, 6), (6, .sipush 400, 3, 9), (9, .if_icmp .gt 7, 3, 12), (12, .iconst 1, 1, 13), (13, .goto 4, 3, 16), (16, .iconst 0, 1, 17), (17, .ireturn, 1, 18)]
theorem id_X9_hasRoom : ∀ q ∈ it_X9_hasRoom, decode cX9_hasRoom q.1 = .ok (q.2.1, q.2.2.1) ∧ q.1 + q.2.2.1 = q.2.2.2 := by decide +kernel
theorem dc_X9_hasRoom {pc : Nat} {i : Instr} {n pc' : Nat} (j : Nat) (h : it_X9_hasRoom[j]? = some (pc, i, n, pc')) : Dc cX9_hasRoom pc i n pc' := dc_of id_X9_hasRoom j h
abbrev rm_X9_hasRoom : Room := { frames := 0, cells := 0, slots := 0, locals := 0 }
def b_X9_hasRoom_17    (s0 : Int32) (σ : MS) : Option (Int32) := chk (s0 = 0 ∨ s0 = 1) (some s0)
set_option maxHeartbeats 4000000 in
set_option maxRecDepth 20000 in
theorem c_X9_hasRoom_17 {X : CX} {Ω : OM} (hX : CF X Ω RX9 cX9_hasRoom 2 (some .boolean) rm_X9_hasRoom) (hO : OKO Ω) (hΩ : oSH Ω = SHX)   (σ : MS)   (s0 : Int32)   : GE X Ω 2 0 0 (emPI σ) 0 0 17 [] [.int s0] σ (b_X9_hasRoom_17  s0 σ) := by
  unfold b_X9_hasRoom_17
  refine g_chk (fun hc3 => ?_)
  exact g_iret hX (dc_X9_hasRoom 9 rfl) (nz_bool hc3).1 rfl (Nat.le_refl _) (Nat.le_refl _)
def b_X9_hasRoom_0   (x1 : Int32)  (σ : MS) : Option (Int32) := (if (400 : Int32) < ((sI σ 1 1) + x1) then (b_X9_hasRoom_17 ((0 : Int32)) σ) else (b_X9_hasRoom_17 ((1 : Int32)) σ))
set_option maxHeartbeats 4000000 in
set_option maxRecDepth 20000 in
theorem c_X9_hasRoom_0 {X : CX} {Ω : OM} (hX : CF X Ω RX9 cX9_hasRoom 2 (some .boolean) rm_X9_hasRoom) (hO : OKO Ω) (hΩ : oSH Ω = SHX)   (σ : MS)  (x1 : Int32)    : GE X Ω 2 0 0 (emPI σ) 0 0 0 [(0, .ref 1), (1, .int x1)] [] σ (b_X9_hasRoom_0  x1 σ) := by
  unfold b_X9_hasRoom_0
  refine g_aload_n hX (dc_X9_hasRoom 0 rfl) rfl 0 rfl ?_
  refine g_getI hX (dc_X9_hasRoom 1 rfl) fl_X9_13 (by decide) rfl (stS hΩ 1 rfl) ?_
  refine g_iload_n hX (dc_X9_hasRoom 2 rfl) rfl 1 rfl ?_
  refine g_iadd hX (dc_X9_hasRoom 3 rfl) ?_
  refine g_sipush (w := (400 : Int32)) hX (dc_X9_hasRoom 4 rfl) (by decide) ?_
  refine g_icmp_gt (tgt := 16) hX (dc_X9_hasRoom 5 rfl) (by decide) (fun h4 => ?_) (fun h4 => ?_)
  · refine g_iconst (w := (0 : Int32)) hX (dc_X9_hasRoom 8 rfl) (by decide) ?_
    exact g_sub [] rfl (c_X9_hasRoom_17 hX hO hΩ σ ((0 : Int32)))
  · refine g_iconst (w := (1 : Int32)) hX (dc_X9_hasRoom 6 rfl) (by decide) ?_
    refine g_goto (tgt := 17) hX (dc_X9_hasRoom 7 rfl) (by decide) ?_
    exact g_sub [] rfl (c_X9_hasRoom_17 hX hO hΩ σ ((1 : Int32)))
def f_X9_hasRoom (x1 : Int32) (σ : MS) : Option (Int32) := b_X9_hasRoom_0  x1 σ
theorem con_X9_hasRoom {Ω : OM} (hO : OKO Ω) (hΩ : oSH Ω = SHX) (x1 : Int32) (σ : MS)  : Con Ω yX9_hasRoom cX9_hasRoom 2 (some .boolean) rm_X9_hasRoom (emPI σ) [.ref 1, .int x1] σ (f_X9_hasRoom x1 σ) :=
  con_of hO (by decide +kernel) (Nat.le_of_ble_eq_true rfl) rfl (fun X hX _ => c_X9_hasRoom_0 hX hO hΩ   σ x1)
def it_X9_put : List (Nat × Instr × Nat × Nat) := [(0, .bipush 24, 2, 2), (2, .istore_n 2, 1, 3), (3, .iload_n 2, 1, 4), (4, .ifCond .lt 45, 3, 7), (7, .aload_n 0, 1, 8), (8, .getfield 13, 3, 11), (11, .sipush 400, 3, 14), (14, .if_icmp .ge 29, 3, 17), (17, .aload_n 0, 1, 18), (18, .getfield 9, 3, 21), (21, .aload_n 0, 1, 22), (22, .getfield 13, 3, 25), (25, .iload_n 1, 1, 26), (26, .iload_n 2, 1, 27), (27, .iushr, 1, 28), (28, .sipush 255, 3, 31), (31, .iand, 1, 32), (32, .iastore, 1, 33), (33, .aload_n 0, 1, 34), (34, .dup, 1, 35), (35, .getfield 13, 3, 38), (38, .iconst 1, 1, 39), (39, .iadd, 1, 40), (40, .putfield 13, 3, 43), (43, .iinc 2 (-8), 3, 46), (46, .goto (-43), 3, 49), (49, .return_, 1, 50)]
theorem id_X9_put : ∀ q ∈ it_X9_put, decode cX9_put q.1 = .ok (q.2.1, q.2.2.1) ∧ q.1 + q.2.2.1 = q.2.2.2 := by decide +kernel
theorem dc_X9_put {pc : Nat} {i : Instr} {n pc' : Nat} (j : Nat) (h : it_X9_put[j]? = some (pc, i, n, pc')) : Dc cX9_put pc i n pc' := dc_of id_X9_put j h
abbrev rm_X9_put : Room := { frames := 0, cells := 0, slots := 0, locals := 0 }
def b_X9_put_43  (k3 : Int32 → Int32 → MS → Option (MS))  (y1 : Int32) (y2 : Int32) (σ : MS) : Option (MS) := (k3 (y1) ((y2 + (-8 : Int32))) σ)
set_option maxHeartbeats 4000000 in
set_option maxRecDepth 20000 in
theorem c_X9_put_43 {X : CX} {Ω : OM} (hX : CF X Ω RX9 cX9_put 3 none rm_X9_put) (hO : OKO Ω) (hΩ : oSH Ω = SHX)   (k3 : Int32 → Int32 → MS → Option (MS)) (hk3 : ∀ (y1 : Int32) (y2 : Int32) (σ : MS) , GE X Ω 3 0 0 (emWV) 0 0 3 [(0, .ref 1), (1, .int y1), (2, .int y2)] [] σ (k3 y1 y2 σ))  (y1 : Int32) (y2 : Int32) (σ : MS)  : GE X Ω 3 0 0 (emWV) 0 0 43 [(0, .ref 1), (1, .int y1), (2, .int y2)] [] σ (b_X9_put_43  k3 y1 y2 σ) := by
  unfold b_X9_put_43
  refine g_iinc (w := (y2 + (-8 : Int32))) (L' := [(2, .int (y2 + (-8 : Int32))), (0, .ref 1), (1, .int y1)]) hX (dc_X9_put 24 rfl) 2 rfl rfl (by decide) rfl ?_
  refine g_goto (tgt := 3) hX (dc_X9_put 25 rfl) (by decide) ?_
  exact g_sub [1, 2, 0] rfl (hk3 (y1) ((y2 + (-8 : Int32))) σ )
def b_X9_put_3   : Nat → Int32 → Int32 → MS → Option (MS)
  | 0, _, _, _ => none
  | n + 1, y1, y2, σ => (if y2 < 0 then some (σ) else (if (400 : Int32) ≤ (sI σ 1 1) then (b_X9_put_43 (b_X9_put_3  n) (y1) (y2) σ) else chk (inb (sI σ 1 1) 400) ((b_X9_put_43 (b_X9_put_3  n) (y1) (y2) (wI (wI σ 2 (ix (sI σ 1 1)) (((y1).toUInt32 >>> ((y2).toUInt32 &&& Int32.toUInt32 31)).toInt32 &&& (255 : Int32))) 1 1 ((sI (wI σ 2 (ix (sI σ 1 1)) (((y1).toUInt32 >>> ((y2).toUInt32 &&& Int32.toUInt32 31)).toInt32 &&& (255 : Int32))) 1 1) + (1 : Int32)))))))
set_option maxHeartbeats 4000000 in
set_option maxRecDepth 20000 in
theorem c_X9_put_3 {X : CX} {Ω : OM} (hX : CF X Ω RX9 cX9_put 3 none rm_X9_put) (hO : OKO Ω) (hΩ : oSH Ω = SHX)    : ∀ (n : Nat) (y1 : Int32) (y2 : Int32) (σ : MS) , GE X Ω 3 0 0 (emWV) 0 0 3 [(0, .ref 1), (1, .int y1), (2, .int y2)] [] σ (b_X9_put_3  n y1 y2 σ)
  | 0, _, _, _ => g_none
  | n + 1, y1, y2, σ => by
    have hk3 := c_X9_put_3 hX hO hΩ  n
    unfold b_X9_put_3
    refine g_iload_n hX (dc_X9_put 2 rfl) rfl 2 rfl ?_
    refine g_if_lt (tgt := 49) hX (dc_X9_put 3 rfl) (by decide) (fun h4 => ?_) (fun h4 => ?_)
    · exact g_vret hX (dc_X9_put 26 rfl) rfl (Nat.le_refl _) (Nat.le_refl _)
    · refine g_aload_n hX (dc_X9_put 4 rfl) rfl 0 rfl ?_
      refine g_getI hX (dc_X9_put 5 rfl) fl_X9_13 (by decide) rfl (stS hΩ 1 rfl) ?_
      refine g_sipush (w := (400 : Int32)) hX (dc_X9_put 6 rfl) (by decide) ?_
      refine g_icmp_ge (tgt := 43) hX (dc_X9_put 7 rfl) (by decide) (fun h5 => ?_) (fun h5 => ?_)
      · exact g_sub [0, 1, 2] rfl (c_X9_put_43 hX hO hΩ _ hk3 (y1) (y2) σ)
      · refine g_aload_n hX (dc_X9_put 8 rfl) rfl 0 rfl ?_
        refine g_getF (q := 2) hX (dc_X9_put 9 rfl) fl_X9_9 (by decide) rfl (stS hΩ 1 rfl) rfl ?_
        refine g_aload_n hX (dc_X9_put 10 rfl) rfl 0 rfl ?_
        refine g_getI hX (dc_X9_put 11 rfl) fl_X9_13 (by decide) rfl (stS hΩ 1 rfl) ?_
        refine g_iload_n hX (dc_X9_put 12 rfl) rfl 1 rfl ?_
        refine g_iload_n hX (dc_X9_put 13 rfl) rfl 2 rfl ?_
        refine g_iushr hX (dc_X9_put 14 rfl) ?_
        refine g_sipush (w := (255 : Int32)) hX (dc_X9_put 15 rfl) (by decide) ?_
        refine g_iand hX (dc_X9_put 16 rfl) ?_
        refine g_chk (fun hc6 => ?_)
        refine g_iast hX (dc_X9_put 17 rfl) (stS hΩ 2 rfl) hc6 rfl ?_
        refine g_aload_n hX (dc_X9_put 18 rfl) rfl 0 rfl ?_
        refine g_dup hX (dc_X9_put 19 rfl) rfl ?_
        refine g_getI hX (dc_X9_put 20 rfl) fl_X9_13 (by decide) rfl (stS hΩ 1 rfl) ?_
        refine g_iconst (w := (1 : Int32)) hX (dc_X9_put 21 rfl) (by decide) ?_
        refine g_iadd hX (dc_X9_put 22 rfl) ?_
        refine g_putI (raw := false) hX (dc_X9_put 23 rfl) fl_X9_13 (by decide) ⟨rfl, rfl⟩ ⟨rfl, rfl⟩ (stS hΩ 1 rfl) ?_
        exact g_sub [0, 1, 2] rfl (c_X9_put_43 hX hO hΩ _ hk3 (y1) (y2) (wI (wI σ 2 (ix (sI σ 1 1)) (((y1).toUInt32 >>> ((y2).toUInt32 &&& Int32.toUInt32 31)).toInt32 &&& (255 : Int32))) 1 1 ((sI (wI σ 2 (ix (sI σ 1 1)) (((y1).toUInt32 >>> ((y2).toUInt32 &&& Int32.toUInt32 31)).toInt32 &&& (255 : Int32))) 1 1) + (1 : Int32))))
def b_X9_put_0   (x1 : Int32)  (σ : MS) : Option (MS) := (b_X9_put_3 FU (x1) ((24 : Int32)) σ)
set_option maxHeartbeats 4000000 in
set_option maxRecDepth 20000 in
theorem c_X9_put_0 {X : CX} {Ω : OM} (hX : CF X Ω RX9 cX9_put 3 none rm_X9_put) (hO : OKO Ω) (hΩ : oSH Ω = SHX)    (x1 : Int32)  (σ : MS)  : GE X Ω 3 0 0 (emWV) 0 0 0 [(0, .ref 1), (1, .int x1)] [] σ (b_X9_put_0  x1 σ) := by
  unfold b_X9_put_0
  refine g_bipush (w := (24 : Int32)) hX (dc_X9_put 0 rfl) (by decide) ?_
  refine g_istore_n (L' := [(2, .int (24 : Int32)), (0, .ref 1), (1, .int x1)]) hX (dc_X9_put 1 rfl) rfl (by decide) rfl ?_
  exact g_sub [1, 2, 0] rfl (c_X9_put_3 hX hO hΩ FU (x1) ((24 : Int32)) σ)
def f_X9_put (x1 : Int32) (σ : MS) : Option (MS) := b_X9_put_0  x1 σ
theorem con_X9_put {Ω : OM} (hO : OKO Ω) (hΩ : oSH Ω = SHX) (x1 : Int32) (σ : MS)  : Con Ω yX9_put cX9_put 3 none rm_X9_put (emWV) [.ref 1, .int x1] σ (f_X9_put x1 σ) :=
  con_of hO (by decide +kernel) (Nat.le_of_ble_eq_true rfl) rfl (fun X hX _ => c_X9_put_0 hX hO hΩ   x1 σ )
def it_X10_settle : List (Nat × Instr × Nat × Nat) := [(0, .aload_n 0, 1, 1), (1, .getfield 12, 3, 4), (4, .aload_n 1, 1, 5), (5, .invokevirtual 43, 3, 8), (8, .aload_n 0, 1, 9), (9, .getfield 21, 3, 12), (12, .aload_n 1, 1, 13), (13, .getfield 47, 3, 16), (16, .invokevirtual 50, 3, 19), (19, .aload_n 0, 1, 20), (20, .iconst 0, 1, 21), (21, .putfield 53, 3, 24), (24, .aload_n 0, 1, 25), (25, .iconst 0, 1, 26), (26, .putfield 56, 3, 29), (29, .return_, 1, 30)]
theorem id_X10_settle : ∀ q ∈ it_X10_settle, decode cX10_settle q.1 = .ok (q.2.1, q.2.2.1) ∧ q.1 + q.2.2.1 = q.2.2.2 := by decide +kernel
theorem dc_X10_settle {pc : Nat} {i : Instr} {n pc' : Nat} (j : Nat) (h : it_X10_settle[j]? = some (pc, i, n, pc')) : Dc cX10_settle pc i n pc' := dc_of id_X10_settle j h
abbrev rm_X10_settle : Room := { frames := 3, cells := 0, slots := 0, locals := 102 }
def b_X10_settle_0     (σ : MS) : Option (MS) := (f_X3_copyFrom 23 4 σ).bind (fun r3 => (f_X8_copyFrom 35 12 r3).bind (fun r4 => some ((wI (wI r4 22 4 (0 : Int32)) 22 8 (0 : Int32)))))
set_option maxHeartbeats 4000000 in
set_option maxRecDepth 20000 in
theorem c_X10_settle_0 {X : CX} {Ω : OM} (hX : CF X Ω RX10 cX10_settle 2 none rm_X10_settle) (hO : OKO Ω) (hΩ : oSH Ω = SHX)      (σ : MS)  : GE X Ω 2 0 0 (emWV) 0 0 0 [(0, .ref 22), (1, .ref 4)] [] σ (b_X10_settle_0  σ) := by
  unfold b_X10_settle_0
  refine g_aload_n hX (dc_X10_settle 0 rfl) rfl 0 rfl ?_
  refine g_getF (q := 23) hX (dc_X10_settle 1 rfl) fl_X10_12 (by decide) rfl (stS hΩ 22 rfl) rfl ?_
  refine g_aload_n hX (dc_X10_settle 2 rfl) rfl 1 rfl ?_
  refine gV_WV (As := [.ref 4]) (st := []) hX (dc_X10_settle 3 rfl) ml_X10_43 (con_X3_copyFrom hO hΩ 23 4 σ (stR hΩ 23 (by decide)).t (stR hΩ 4 (by decide)).t) (stS hΩ 23 rfl) rfl rfl ⟨by decide, by decide⟩ ⟨rfl, rfl⟩ ⟨Nat.zero_le _, Nat.zero_le _⟩ (Nat.le_of_ble_eq_true rfl) (fun r3 _ => ?_)
  refine g_aload_n hX (dc_X10_settle 4 rfl) rfl 0 rfl ?_
  refine g_getF (q := 35) hX (dc_X10_settle 5 rfl) fl_X10_21 (by decide) rfl (stS hΩ 22 rfl) rfl ?_
  refine g_aload_n hX (dc_X10_settle 6 rfl) rfl 1 rfl ?_
  refine g_getF (q := 12) hX (dc_X10_settle 7 rfl) fl_X10_47 (by decide) rfl (stS hΩ 4 rfl) rfl ?_
  refine gV_WV (As := [.ref 12]) (st := []) hX (dc_X10_settle 8 rfl) ml_X10_50 (con_X8_copyFrom hO hΩ 35 12 r3 (stR hΩ 35 (by decide)).t (stR hΩ 12 (by decide)).t) (stS hΩ 35 rfl) rfl rfl ⟨by decide, by decide⟩ ⟨rfl, rfl⟩ ⟨Nat.zero_le _, Nat.zero_le _⟩ (Nat.le_of_ble_eq_true rfl) (fun r4 _ => ?_)
  refine g_aload_n hX (dc_X10_settle 9 rfl) rfl 0 rfl ?_
  refine g_iconst (w := (0 : Int32)) hX (dc_X10_settle 10 rfl) (by decide) ?_
  refine g_putI (raw := false) hX (dc_X10_settle 11 rfl) fl_X10_53 (by decide) ⟨rfl, rfl⟩ ⟨rfl, rfl⟩ (stS hΩ 22 rfl) ?_
  refine g_aload_n hX (dc_X10_settle 12 rfl) rfl 0 rfl ?_
  refine g_iconst (w := (0 : Int32)) hX (dc_X10_settle 13 rfl) (by decide) ?_
  refine g_putI (raw := false) hX (dc_X10_settle 14 rfl) fl_X10_56 (by decide) ⟨rfl, rfl⟩ ⟨rfl, rfl⟩ (stS hΩ 22 rfl) ?_
  exact g_vret hX (dc_X10_settle 15 rfl) rfl (Nat.le_refl _) (Nat.le_refl _)
def f_X10_settle  (σ : MS) : Option (MS) := b_X10_settle_0   σ
theorem con_X10_settle {Ω : OM} (hO : OKO Ω) (hΩ : oSH Ω = SHX)  (σ : MS)  : Con Ω yX10_settle cX10_settle 2 none rm_X10_settle (emWV) [.ref 22, .ref 4] σ (f_X10_settle  σ) :=
  con_of hO (by decide +kernel) (Nat.le_of_ble_eq_true rfl) rfl (fun X hX _ => c_X10_settle_0 hX hO hΩ    σ )
def it_X10_undoLast : List (Nat × Instr × Nat × Nat) := [(0, .aload_n 0, 1, 1), (1, .getfield 63, 3, 4), (4, .bipush 20, 2, 6), (6, .iadd, 1, 7), (7, .iconst 1, 1, 8), (8, .isub, 1, 9), (9, .bipush 20, 2, 11), (11, .irem, 1, 12), (12, .istore_n 1, 1, 13), (13, .aload_n 0, 1, 14), (14, .getfield 53, 3, 17), (17, .ifCond .eq 12, 3, 20), (20, .aload_n 0, 1, 21), (21, .getfield 25, 3, 24), (24, .iload_n 1, 1, 25), (25, .aaload, 1, 26), (26, .ifnonnull 5, 3, 29), (29, .iconst 0, 1, 30), (30, .ireturn, 1, 31), (31, .aload_n 0, 1, 32), (32, .getfield 21, 3, 35), (35, .aload_n 0, 1, 36), (36, .getfield 25, 3, 39), (39, .iload_n 1, 1, 40), (40, .aaload, 1, 41), (41, .invokevirtual 50, 3, 44), (44, .aload_n 0, 1, 45), (45, .iload_n 1, 1, 46), (46, .putfield 63, 3, 49), (49, .aload_n 0, 1, 50), (50, .dup, 1, 51), (51, .getfield 53, 3, 54), (54, .iconst 1, 1, 55), (55, .isub, 1, 56), (56, .putfield 53, 3, 59), (59, .iconst 1, 1, 60), (60, .ireturn, 1, 61)]
theorem id_X10_undoLast : ∀ q ∈ it_X10_undoLast, decode cX10_undoLast q.1 = .ok (q.2.1, q.2.2.1) ∧ q.1 + q.2.2.1 = q.2.2.2 := by decide +kernel
theorem dc_X10_undoLast {pc : Nat} {i : Instr} {n pc' : Nat} (j : Nat) (h : it_X10_undoLast[j]? = some (pc, i, n, pc')) : Dc cX10_undoLast pc i n pc' := dc_of id_X10_undoLast j h
abbrev rm_X10_undoLast : Room := { frames := 2, cells := 0, slots := 0, locals := 81 }
def b_X10_undoLast_29     (σ : MS) : Option (Int32 × MS) := some ((0 : Int32), σ)
set_option maxHeartbeats 4000000 in
set_option maxRecDepth 20000 in
theorem c_X10_undoLast_29 {X : CX} {Ω : OM} (hX : CF X Ω RX10 cX10_undoLast 2 (some .boolean) rm_X10_undoLast) (hO : OKO Ω) (hΩ : oSH Ω = SHX)      (σ : MS)  : GE X Ω 2 0 0 (emWI) 0 0 29 [] [] σ (b_X10_undoLast_29  σ) := by
  unfold b_X10_undoLast_29
  refine g_iconst (w := (0 : Int32)) hX (dc_X10_undoLast 17 rfl) (by decide) ?_
  exact g_iret hX (dc_X10_undoLast 18 rfl) rfl rfl (Nat.le_refl _) (Nat.le_refl _)
def b_X10_undoLast_13    (y1 : Int32) (σ : MS) : Option (Int32 × MS) := (if (sI σ 22 4) = 0 then (b_X10_undoLast_29 σ) else chk (inb y1 20) ((onr (sR σ 39 (ix y1)) ((b_X10_undoLast_29 σ)) (fun b13 => @chk (dRt σ b13 shState) (dec_dRt σ b13 shState) _ (chk (inb y1 20) ((onr (sR σ 39 (ix y1)) (none) (fun b17 => @chk (dRt σ b17 shState) (dec_dRt σ b17 shState) _ ((f_X8_copyFrom 35 b17 σ).bind (fun r20 => some ((1 : Int32), (wI (wI r20 22 3 y1) 22 4 ((sI (wI r20 22 3 y1) 22 4) - (1 : Int32))))))))))))))
set_option maxHeartbeats 4000000 in
set_option maxRecDepth 20000 in
theorem c_X10_undoLast_13 {X : CX} {Ω : OM} (hX : CF X Ω RX10 cX10_undoLast 2 (some .boolean) rm_X10_undoLast) (hO : OKO Ω) (hΩ : oSH Ω = SHX)     (y1 : Int32) (σ : MS)  : GE X Ω 2 0 0 (emWI) 0 0 13 [(0, .ref 22), (1, .int y1)] [] σ (b_X10_undoLast_13  y1 σ) := by
  unfold b_X10_undoLast_13
  refine g_aload_n hX (dc_X10_undoLast 9 rfl) rfl 0 rfl ?_
  refine g_getI hX (dc_X10_undoLast 10 rfl) fl_X10_53 (by decide) rfl (stS hΩ 22 rfl) ?_
  refine g_if_eq (tgt := 29) hX (dc_X10_undoLast 11 rfl) (by decide) (fun h11 => ?_) (fun h11 => ?_)
  · exact g_sub [] rfl (c_X10_undoLast_29 hX hO hΩ σ)
  · refine g_aload_n hX (dc_X10_undoLast 12 rfl) rfl 0 rfl ?_
    refine g_getF (q := 39) hX (dc_X10_undoLast 13 rfl) fl_X10_25 (by decide) rfl (stS hΩ 22 rfl) rfl ?_
    refine g_iload_n hX (dc_X10_undoLast 14 rfl) rfl 1 rfl ?_
    refine g_chk (fun hc12 => ?_)
    refine g_aald hX (dc_X10_undoLast 15 rfl) (stS hΩ 39 rfl) ⟨by decide, by decide⟩ rfl hc12 rfl (fun _ => ?_) (fun b13 hb14 => ?_)
    · refine g_ifnonnull_N (tgt := 0) hX (dc_X10_undoLast 16 rfl) ?_
      exact g_sub [] rfl (c_X10_undoLast_29 hX hO hΩ σ)
    · refine g_chkd (fun ho15 => ?_)
      refine g_ifnonnull_R (tgt := 31) hX (dc_X10_undoLast 16 rfl) (by decide) ?_
      refine g_aload_n hX (dc_X10_undoLast 19 rfl) rfl 0 rfl ?_
      refine g_getF (q := 35) hX (dc_X10_undoLast 20 rfl) fl_X10_21 (by decide) rfl (stS hΩ 22 rfl) rfl ?_
      refine g_aload_n hX (dc_X10_undoLast 21 rfl) rfl 0 rfl ?_
      refine g_getF (q := 39) hX (dc_X10_undoLast 22 rfl) fl_X10_25 (by decide) rfl (stS hΩ 22 rfl) rfl ?_
      refine g_iload_n hX (dc_X10_undoLast 23 rfl) rfl 1 rfl ?_
      refine g_chk (fun hc16 => ?_)
      refine g_aald hX (dc_X10_undoLast 24 rfl) (stS hΩ 39 rfl) ⟨by decide, by decide⟩ rfl hc16 rfl (fun _ => ?_) (fun b17 hb18 => ?_)
      · exact g_none
      · refine g_chkd (fun ho19 => ?_)
        refine gV_WV (As := [.ref b17]) (st := []) hX (dc_X10_undoLast 25 rfl) ml_X10_50 (con_X8_copyFrom hO hΩ 35 b17 σ (stR hΩ 35 (by decide)).t (ho19.t)) (stS hΩ 35 rfl) rfl rfl ⟨by decide, by decide⟩ ⟨rfl, rfl⟩ ⟨Nat.zero_le _, Nat.zero_le _⟩ (Nat.le_of_ble_eq_true rfl) (fun r20 _ => ?_)
        refine g_aload_n hX (dc_X10_undoLast 26 rfl) rfl 0 rfl ?_
        refine g_iload_n hX (dc_X10_undoLast 27 rfl) rfl 1 rfl ?_
        refine g_putI (raw := false) hX (dc_X10_undoLast 28 rfl) fl_X10_63 (by decide) ⟨rfl, rfl⟩ ⟨rfl, rfl⟩ (stS hΩ 22 rfl) ?_
        refine g_aload_n hX (dc_X10_undoLast 29 rfl) rfl 0 rfl ?_
        refine g_dup hX (dc_X10_undoLast 30 rfl) rfl ?_
        refine g_getI hX (dc_X10_undoLast 31 rfl) fl_X10_53 (by decide) rfl (stS hΩ 22 rfl) ?_
        refine g_iconst (w := (1 : Int32)) hX (dc_X10_undoLast 32 rfl) (by decide) ?_
        refine g_isub hX (dc_X10_undoLast 33 rfl) ?_
        refine g_putI (raw := false) hX (dc_X10_undoLast 34 rfl) fl_X10_53 (by decide) ⟨rfl, rfl⟩ ⟨rfl, rfl⟩ (stS hΩ 22 rfl) ?_
        refine g_iconst (w := (1 : Int32)) hX (dc_X10_undoLast 35 rfl) (by decide) ?_
        exact g_iret hX (dc_X10_undoLast 36 rfl) rfl rfl (Nat.le_refl _) (Nat.le_refl _)
def b_X10_undoLast_0     (σ : MS) : Option (Int32 × MS) := (b_X10_undoLast_13 (((((sI σ 22 3) + (20 : Int32)) - (1 : Int32)) - (((sI σ 22 3) + (20 : Int32)) - (1 : Int32)) / (20 : Int32) * (20 : Int32))) σ)
set_option maxHeartbeats 4000000 in
set_option maxRecDepth 20000 in
theorem c_X10_undoLast_0 {X : CX} {Ω : OM} (hX : CF X Ω RX10 cX10_undoLast 2 (some .boolean) rm_X10_undoLast) (hO : OKO Ω) (hΩ : oSH Ω = SHX)      (σ : MS)  : GE X Ω 2 0 0 (emWI) 0 0 0 [(0, .ref 22)] [] σ (b_X10_undoLast_0  σ) := by
  unfold b_X10_undoLast_0
  refine g_aload_n hX (dc_X10_undoLast 0 rfl) rfl 0 rfl ?_
  refine g_getI hX (dc_X10_undoLast 1 rfl) fl_X10_63 (by decide) rfl (stS hΩ 22 rfl) ?_
  refine g_bipush (w := (20 : Int32)) hX (dc_X10_undoLast 2 rfl) (by decide) ?_
  refine g_iadd hX (dc_X10_undoLast 3 rfl) ?_
  refine g_iconst (w := (1 : Int32)) hX (dc_X10_undoLast 4 rfl) (by decide) ?_
  refine g_isub hX (dc_X10_undoLast 5 rfl) ?_
  refine g_bipush (w := (20 : Int32)) hX (dc_X10_undoLast 6 rfl) (by decide) ?_
  refine g_irem hX (dc_X10_undoLast 7 rfl) (by decide) ?_
  refine g_istore_n (L' := [(1, .int ((((sI σ 22 3) + (20 : Int32)) - (1 : Int32)) - (((sI σ 22 3) + (20 : Int32)) - (1 : Int32)) / (20 : Int32) * (20 : Int32))), (0, .ref 22)]) hX (dc_X10_undoLast 8 rfl) rfl (by decide) rfl ?_
  exact g_sub [1, 0] rfl (c_X10_undoLast_13 hX hO hΩ (((((sI σ 22 3) + (20 : Int32)) - (1 : Int32)) - (((sI σ 22 3) + (20 : Int32)) - (1 : Int32)) / (20 : Int32) * (20 : Int32))) σ)
def f_X10_undoLast  (σ : MS) : Option (Int32 × MS) := b_X10_undoLast_0   σ
theorem con_X10_undoLast {Ω : OM} (hO : OKO Ω) (hΩ : oSH Ω = SHX)  (σ : MS)  : Con Ω yX10_undoLast cX10_undoLast 2 (some .boolean) rm_X10_undoLast (emWI) [.ref 22] σ (f_X10_undoLast  σ) :=
  con_of hO (by decide +kernel) (Nat.le_of_ble_eq_true rfl) rfl (fun X hX _ => c_X10_undoLast_0 hX hO hΩ    σ )
def it_X10_addLog : List (Nat × Instr × Nat × Nat) := [(0, .aload_n 0, 1, 1), (1, .getfield 56, 3, 4), (4, .bipush 10, 2, 6), (6, .if_icmp .lt 5, 3, 9), (9, .iconst 0, 1, 10), (10, .ireturn, 1, 11), (11, .aload_n 0, 1, 12), (12, .getfield 29, 3, 15), (15, .aload_n 0, 1, 16), (16, .getfield 56, 3, 19), (19, .iload_n 1, 1, 20), (20, .iastore, 1, 21), (21, .aload_n 0, 1, 22), (22, .getfield 33, 3, 25), (25, .aload_n 0, 1, 26), (26, .getfield 56, 3, 29), (29, .iload_n 2, 1, 30), (30, .iastore, 1, 31), (31, .aload_n 0, 1, 32), (32, .getfield 36, 3, 35), (35, .aload_n 0, 1, 36), (36, .getfield 56, 3, 39), (39, .iload_n 3, 1, 40), (40, .iastore, 1, 41), (41, .aload_n 0, 1, 42), (42, .dup, 1, 43), (43, .getfield 56, 3, 46), (46, .iconst 1, 1, 47), (47, .iadd, 1, 48), (48, .putfield 56, 3, 51), (51, .iconst 1, 1, 52), (52, .ireturn, 1, 53)]
theorem id_X10_addLog : ∀ q ∈ it_X10_addLog, decode cX10_addLog q.1 = .ok (q.2.1, q.2.2.1) ∧ q.1 + q.2.2.1 = q.2.2.2 := by decide +kernel
theorem dc_X10_addLog {pc : Nat} {i : Instr} {n pc' : Nat} (j : Nat) (h : it_X10_addLog[j]? = some (pc, i, n, pc')) : Dc cX10_addLog pc i n pc' := dc_of id_X10_addLog j h
abbrev rm_X10_addLog : Room := { frames := 0, cells := 0, slots := 0, locals := 0 }
def b_X10_addLog_41     (σ : MS) : Option (Int32 × MS) := some ((1 : Int32), (wI σ 22 8 ((sI σ 22 8) + (1 : Int32))))
set_option maxHeartbeats 4000000 in
set_option maxRecDepth 20000 in
theorem c_X10_addLog_41 {X : CX} {Ω : OM} (hX : CF X Ω RX10 cX10_addLog 4 (some .boolean) rm_X10_addLog) (hO : OKO Ω) (hΩ : oSH Ω = SHX)      (σ : MS)  : GE X Ω 4 0 0 (emWI) 0 0 41 [(0, .ref 22)] [] σ (b_X10_addLog_41  σ) := by
  unfold b_X10_addLog_41
  refine g_aload_n hX (dc_X10_addLog 24 rfl) rfl 0 rfl ?_
  refine g_dup hX (dc_X10_addLog 25 rfl) rfl ?_
  refine g_getI hX (dc_X10_addLog 26 rfl) fl_X10_56 (by decide) rfl (stS hΩ 22 rfl) ?_
  refine g_iconst (w := (1 : Int32)) hX (dc_X10_addLog 27 rfl) (by decide) ?_
  refine g_iadd hX (dc_X10_addLog 28 rfl) ?_
  refine g_putI (raw := false) hX (dc_X10_addLog 29 rfl) fl_X10_56 (by decide) ⟨rfl, rfl⟩ ⟨rfl, rfl⟩ (stS hΩ 22 rfl) ?_
  refine g_iconst (w := (1 : Int32)) hX (dc_X10_addLog 30 rfl) (by decide) ?_
  exact g_iret hX (dc_X10_addLog 31 rfl) rfl rfl (Nat.le_refl _) (Nat.le_refl _)
def b_X10_addLog_0   (x1 : Int32) (x2 : Int32) (x3 : Int32)  (σ : MS) : Option (Int32 × MS) := (if (sI σ 22 8) < (10 : Int32) then chk (inb (sI σ 22 8) 10) (chk (inb (sI (wI σ 40 (ix (sI σ 22 8)) x1) 22 8) 10) (chk (inb (sI (wI (wI σ 40 (ix (sI σ 22 8)) x1) 41 (ix (sI (wI σ 40 (ix (sI σ 22 8)) x1) 22 8)) x2) 22 8) 10) ((b_X10_addLog_41 (wI (wI (wI σ 40 (ix (sI σ 22 8)) x1) 41 (ix (sI (wI σ 40 (ix (sI σ 22 8)) x1) 22 8)) x2) 42 (ix (sI (wI (wI σ 40 (ix (sI σ 22 8)) x1) 41 (ix (sI (wI σ 40 (ix (sI σ 22 8)) x1) 22 8)) x2) 22 8)) x3))))) else some ((0 : Int32), σ))
set_option maxHeartbeats 4000000 in
set_option maxRecDepth 20000 in
theorem c_X10_addLog_0 {X : CX} {Ω : OM} (hX : CF X Ω RX10 cX10_addLog 4 (some .boolean) rm_X10_addLog) (hO : OKO Ω) (hΩ : oSH Ω = SHX)    (x1 : Int32) (x2 : Int32) (x3 : Int32)  (σ : MS)  : GE X Ω 4 0 0 (emWI) 0 0 0 [(0, .ref 22), (1, .int x1), (2, .int x2), (3, .int x3)] [] σ (b_X10_addLog_0  x1 x2 x3 σ) := by
  unfold b_X10_addLog_0
  refine g_aload_n hX (dc_X10_addLog 0 rfl) rfl 0 rfl ?_
  refine g_getI hX (dc_X10_addLog 1 rfl) fl_X10_56 (by decide) rfl (stS hΩ 22 rfl) ?_
  refine g_bipush (w := (10 : Int32)) hX (dc_X10_addLog 2 rfl) (by decide) ?_
  refine g_icmp_lt (tgt := 11) hX (dc_X10_addLog 3 rfl) (by decide) (fun h5 => ?_) (fun h5 => ?_)
  · refine g_aload_n hX (dc_X10_addLog 6 rfl) rfl 0 rfl ?_
    refine g_getF (q := 40) hX (dc_X10_addLog 7 rfl) fl_X10_29 (by decide) rfl (stS hΩ 22 rfl) rfl ?_
    refine g_aload_n hX (dc_X10_addLog 8 rfl) rfl 0 rfl ?_
    refine g_getI hX (dc_X10_addLog 9 rfl) fl_X10_56 (by decide) rfl (stS hΩ 22 rfl) ?_
    refine g_iload_n hX (dc_X10_addLog 10 rfl) rfl 1 rfl ?_
    refine g_chk (fun hc6 => ?_)
    refine g_iast hX (dc_X10_addLog 11 rfl) (stS hΩ 40 rfl) hc6 rfl ?_
    refine g_aload_n hX (dc_X10_addLog 12 rfl) rfl 0 rfl ?_
    refine g_getF (q := 41) hX (dc_X10_addLog 13 rfl) fl_X10_33 (by decide) rfl (stS hΩ 22 rfl) rfl ?_
    refine g_aload_n hX (dc_X10_addLog 14 rfl) rfl 0 rfl ?_
    refine g_getI hX (dc_X10_addLog 15 rfl) fl_X10_56 (by decide) rfl (stS hΩ 22 rfl) ?_
    refine g_iload_n hX (dc_X10_addLog 16 rfl) rfl 2 rfl ?_
    refine g_chk (fun hc7 => ?_)
    refine g_iast hX (dc_X10_addLog 17 rfl) (stS hΩ 41 rfl) hc7 rfl ?_
    refine g_aload_n hX (dc_X10_addLog 18 rfl) rfl 0 rfl ?_
    refine g_getF (q := 42) hX (dc_X10_addLog 19 rfl) fl_X10_36 (by decide) rfl (stS hΩ 22 rfl) rfl ?_
    refine g_aload_n hX (dc_X10_addLog 20 rfl) rfl 0 rfl ?_
    refine g_getI hX (dc_X10_addLog 21 rfl) fl_X10_56 (by decide) rfl (stS hΩ 22 rfl) ?_
    refine g_iload_n hX (dc_X10_addLog 22 rfl) rfl 3 rfl ?_
    refine g_chk (fun hc8 => ?_)
    refine g_iast hX (dc_X10_addLog 23 rfl) (stS hΩ 42 rfl) hc8 rfl ?_
    exact g_sub [0] rfl (c_X10_addLog_41 hX hO hΩ (wI (wI (wI σ 40 (ix (sI σ 22 8)) x1) 41 (ix (sI (wI σ 40 (ix (sI σ 22 8)) x1) 22 8)) x2) 42 (ix (sI (wI (wI σ 40 (ix (sI σ 22 8)) x1) 41 (ix (sI (wI σ 40 (ix (sI σ 22 8)) x1) 22 8)) x2) 22 8)) x3))
  · refine g_iconst (w := (0 : Int32)) hX (dc_X10_addLog 4 rfl) (by decide) ?_
    exact g_iret hX (dc_X10_addLog 5 rfl) rfl rfl (Nat.le_refl _) (Nat.le_refl _)
def f_X10_addLog (x1 : Int32) (x2 : Int32) (x3 : Int32) (σ : MS) : Option (Int32 × MS) := b_X10_addLog_0  x1 x2 x3 σ
theorem con_X10_addLog {Ω : OM} (hO : OKO Ω) (hΩ : oSH Ω = SHX) (x1 : Int32) (x2 : Int32) (x3 : Int32) (σ : MS)  : Con Ω yX10_addLog cX10_addLog 4 (some .boolean) rm_X10_addLog (emWI) [.ref 22, .int x1, .int x2, .int x3] σ (f_X10_addLog x1 x2 x3 σ) :=
  con_of hO (by decide +kernel) (Nat.le_of_ble_eq_true rfl) rfl (fun X hX _ => c_X10_addLog_0 hX hO hΩ   x1 x2 x3 σ )
def it_X10_lastLog : List (Nat × Instr × Nat × Nat) := [(0, .iconst 0, 1, 1), (1, .istore_n 1, 1, 2), (2, .iconst 0, 1, 3), (3, .istore_n 2, 1, 4), (4, .iload_n 2, 1, 5), (5, .aload_n 0, 1, 6), (6, .getfield 56, 3, 9), (9, .if_icmp .ge 20, 3, 12), (12, .iload_n 1, 1, 13), (13, .aload_n 0, 1, 14), (14, .getfield 29, 3, 17), (17, .iload_n 2, 1, 18), (18, .iaload, 1, 19), (19, .invokestatic 81, 3, 22), (22, .istore_n 1, 1, 23), (23, .iinc 2 1, 3, 26), (26, .goto (-22), 3, 29), (29, .iload_n 1, 1, 30), (30, .ireturn, 1, 31)]
theorem id_X10_lastLog : ∀ q ∈ it_X10_lastLog, decode cX10_lastLog q.1 = .ok (q.2.1, q.2.2.1) ∧ q.1 + q.2.2.1 = q.2.2.2 := by decide +kernel
theorem dc_X10_lastLog {pc : Nat} {i : Instr} {n pc' : Nat} (j : Nat) (h : it_X10_lastLog[j]? = some (pc, i, n, pc')) : Dc cX10_lastLog pc i n pc' := dc_of id_X10_lastLog j h
abbrev rm_X10_lastLog : Room := { frames := 1, cells := 0, slots := 0, locals := 21 }
def b_X10_lastLog_4   : Nat → Int32 → Int32 → MS → Option (Int32)
  | 0, _, _, _ => none
  | n + 1, y1, y2, σ => (if (sI σ 22 8) ≤ y2 then some y1 else chk (inb y2 10) ((f_J9_max_7cf53 y1 (sI σ 40 (ix y2))).bind (fun r6 => ((b_X10_lastLog_4  n) (r6) ((y2 + (1 : Int32))) σ))))
set_option maxHeartbeats 4000000 in
set_option maxRecDepth 20000 in
theorem c_X10_lastLog_4 {X : CX} {Ω : OM} (hX : CF X Ω RX10 cX10_lastLog 3 (some .int) rm_X10_lastLog) (hO : OKO Ω) (hΩ : oSH Ω = SHX)   (σ : MS)  : ∀ (n : Nat) (y1 : Int32) (y2 : Int32)  , GE X Ω 3 0 0 (emPI σ) 0 0 4 [(0, .ref 22), (1, .int y1), (2, .int y2)] [] σ (b_X10_lastLog_4  n y1 y2 σ)
  | 0, _, _ => g_none
  | n + 1, y1, y2 => by
    have hk4 := c_X10_lastLog_4 hX hO hΩ  σ n
    unfold b_X10_lastLog_4
    refine g_iload_n hX (dc_X10_lastLog 4 rfl) rfl 2 rfl ?_
    refine g_aload_n hX (dc_X10_lastLog 5 rfl) rfl 0 rfl ?_
    refine g_getI hX (dc_X10_lastLog 6 rfl) fl_X10_56 (by decide) rfl (stS hΩ 22 rfl) ?_
    refine g_icmp_ge (tgt := 29) hX (dc_X10_lastLog 7 rfl) (by decide) (fun h4 => ?_) (fun h4 => ?_)
    · refine g_iload_n hX (dc_X10_lastLog 17 rfl) rfl 1 rfl ?_
      exact g_iret hX (dc_X10_lastLog 18 rfl) rfl rfl (Nat.le_refl _) (Nat.le_refl _)
    · refine g_iload_n hX (dc_X10_lastLog 8 rfl) rfl 1 rfl ?_
      refine g_aload_n hX (dc_X10_lastLog 9 rfl) rfl 0 rfl ?_
      refine g_getF (q := 40) hX (dc_X10_lastLog 10 rfl) fl_X10_29 (by decide) rfl (stS hΩ 22 rfl) rfl ?_
      refine g_iload_n hX (dc_X10_lastLog 11 rfl) rfl 2 rfl ?_
      refine g_chk (fun hc5 => ?_)
      refine g_iald hX (dc_X10_lastLog 12 rfl) (stS hΩ 40 rfl) hc5 rfl ?_
      refine gS_PI (As := [.int y1, .int (sI σ 40 (ix y2))]) (st := []) hX (dc_X10_lastLog 13 rfl) ml_X10_81 (con_J9_max_7cf53 hO hΩ y1 (sI σ 40 (ix y2)) σ) rfl rfl ⟨by decide, by decide⟩ ⟨rfl, rfl⟩ ⟨Nat.zero_le _, Nat.zero_le _⟩ (Nat.le_of_ble_eq_true rfl) (fun r6 _ => ?_)
      refine g_istore_n (L' := [(1, .int r6), (0, .ref 22), (2, .int y2)]) hX (dc_X10_lastLog 14 rfl) rfl (by decide) rfl ?_
      refine g_iinc (w := (y2 + (1 : Int32))) (L' := [(2, .int (y2 + (1 : Int32))), (1, .int r6), (0, .ref 22)]) hX (dc_X10_lastLog 15 rfl) 2 rfl rfl (by decide) rfl ?_
      refine g_goto (tgt := 4) hX (dc_X10_lastLog 16 rfl) (by decide) ?_
      exact g_sub [2, 1, 0] rfl (hk4 (r6) ((y2 + (1 : Int32))) )
def b_X10_lastLog_0     (σ : MS) : Option (Int32) := (b_X10_lastLog_4 FU ((0 : Int32)) ((0 : Int32)) σ)
set_option maxHeartbeats 4000000 in
set_option maxRecDepth 20000 in
theorem c_X10_lastLog_0 {X : CX} {Ω : OM} (hX : CF X Ω RX10 cX10_lastLog 3 (some .int) rm_X10_lastLog) (hO : OKO Ω) (hΩ : oSH Ω = SHX)   (σ : MS)      : GE X Ω 3 0 0 (emPI σ) 0 0 0 [(0, .ref 22)] [] σ (b_X10_lastLog_0  σ) := by
  unfold b_X10_lastLog_0
  refine g_iconst (w := (0 : Int32)) hX (dc_X10_lastLog 0 rfl) (by decide) ?_
  refine g_istore_n (L' := [(1, .int (0 : Int32)), (0, .ref 22)]) hX (dc_X10_lastLog 1 rfl) rfl (by decide) rfl ?_
  refine g_iconst (w := (0 : Int32)) hX (dc_X10_lastLog 2 rfl) (by decide) ?_
  refine g_istore_n (L' := [(2, .int (0 : Int32)), (1, .int (0 : Int32)), (0, .ref 22)]) hX (dc_X10_lastLog 3 rfl) rfl (by decide) rfl ?_
  exact g_sub [2, 1, 0] rfl (c_X10_lastLog_4 hX hO hΩ σ FU ((0 : Int32)) ((0 : Int32)))
def f_X10_lastLog  (σ : MS) : Option (Int32) := b_X10_lastLog_0   σ
theorem con_X10_lastLog {Ω : OM} (hO : OKO Ω) (hΩ : oSH Ω = SHX)  (σ : MS)  : Con Ω yX10_lastLog cX10_lastLog 3 (some .int) rm_X10_lastLog (emPI σ) [.ref 22] σ (f_X10_lastLog  σ) :=
  con_of hO (by decide +kernel) (Nat.le_of_ble_eq_true rfl) rfl (fun X hX _ => c_X10_lastLog_0 hX hO hΩ   σ )
def it_X10_agrees : List (Nat × Instr × Nat × Nat) := [(0, .iconst 0, 1, 1), (1, .istore_n 3, 1, 2), (2, .iload_n 3, 1, 3), (3, .aload_n 0, 1, 4), (4, .getfield 56, 3, 7), (7, .if_icmp .ge 41, 3, 10), (10, .aload_n 0, 1, 11), (11, .getfield 29, 3, 14), (14, .iload_n 3, 1, 15), (15, .iaload, 1, 16), (16, .iload_n 2, 1, 17), (17, .if_icmp .ne 25, 3, 20), (20, .aload_n 1, 1, 21), (21, .getfield 84, 3, 24), (24, .aload_n 0, 1, 25), (25, .getfield 33, 3, 28), (28, .iload_n 3, 1, 29), (29, .iaload, 1, 30), (30, .iaload, 1, 31), (31, .aload_n 0, 1, 32), (32, .getfield 36, 3, 35), (35, .iload_n 3, 1, 36), (36, .iaload, 1, 37), (37, .if_icmp .eq 5, 3, 40), (40, .iconst 0, 1, 41), (41, .ireturn, 1, 42), (42, .iinc 3 1, 3, 45), (45, .goto (-43), 3, 48), (48, .iconst 1, 1, 49), (49, .ireturn, 1, 50)]
theorem id_X10_agrees : ∀ q ∈ it_X10_agrees, decode cX10_agrees q.1 = .ok (q.2.1, q.2.2.1) ∧ q.1 + q.2.2.1 = q.2.2.2 := by decide +kernel
theorem dc_X10_agrees {pc : Nat} {i : Instr} {n pc' : Nat} (j : Nat) (h : it_X10_agrees[j]? = some (pc, i, n, pc')) : Dc cX10_agrees pc i n pc' := dc_of id_X10_agrees j h
abbrev rm_X10_agrees : Room := { frames := 0, cells := 0, slots := 0, locals := 0 }
def b_X10_agrees_42 (a1 : Nat) (k2 : Int32 → Int32 → MS → Option (Int32))  (y2 : Int32) (y3 : Int32) (σ : MS) : Option (Int32) := (k2 (y2) ((y3 + (1 : Int32))) σ)
set_option maxHeartbeats 4000000 in
set_option maxRecDepth 20000 in
theorem c_X10_agrees_42 {X : CX} {Ω : OM} (hX : CF X Ω RX10 cX10_agrees 4 (some .boolean) rm_X10_agrees) (hO : OKO Ω) (hΩ : oSH Ω = SHX) (a1 : Nat) (ha1 : sRt Ω a1 shState) (σ : MS) (k2 : Int32 → Int32 → MS → Option (Int32)) (hk2 : ∀ (y2 : Int32) (y3 : Int32), GE X Ω 4 0 0 (emPI σ) 0 0 2 [(0, .ref 22), (1, .ref a1), (2, .int y2), (3, .int y3)] [] σ (k2 y2 y3 σ))  (y2 : Int32) (y3 : Int32)   : GE X Ω 4 0 0 (emPI σ) 0 0 42 [(0, .ref 22), (1, .ref a1), (2, .int y2), (3, .int y3)] [] σ (b_X10_agrees_42 a1 k2 y2 y3 σ) := by
  unfold b_X10_agrees_42
  refine g_iinc (w := (y3 + (1 : Int32))) (L' := [(3, .int (y3 + (1 : Int32))), (0, .ref 22), (1, .ref a1), (2, .int y2)]) hX (dc_X10_agrees 26 rfl) 3 rfl rfl (by decide) rfl ?_
  refine g_goto (tgt := 2) hX (dc_X10_agrees 27 rfl) (by decide) ?_
  exact g_sub [1, 2, 3, 0] rfl (hk2 (y2) ((y3 + (1 : Int32))) )
def b_X10_agrees_2 (a1 : Nat)  : Nat → Int32 → Int32 → MS → Option (Int32)
  | 0, _, _, _ => none
  | n + 1, y2, y3, σ => (if (sI σ 22 8) ≤ y3 then some (1 : Int32) else chk (inb y3 10) ((if (sI σ 40 (ix y3)) = y2 then chk (inb y3 10) (chk (inb (sI σ 41 (ix y3)) 6) (chk (inb y3 10) ((if (sI σ (a1 + 1) (ix (sI σ 41 (ix y3)))) = (sI σ 42 (ix y3)) then (b_X10_agrees_42 a1 (b_X10_agrees_2 a1 n) (y2) (y3) σ) else some (0 : Int32))))) else (b_X10_agrees_42 a1 (b_X10_agrees_2 a1 n) (y2) (y3) σ))))
set_option maxHeartbeats 4000000 in
set_option maxRecDepth 20000 in
theorem c_X10_agrees_2 {X : CX} {Ω : OM} (hX : CF X Ω RX10 cX10_agrees 4 (some .boolean) rm_X10_agrees) (hO : OKO Ω) (hΩ : oSH Ω = SHX) (a1 : Nat) (ha1 : sRt Ω a1 shState) (σ : MS)  : ∀ (n : Nat) (y2 : Int32) (y3 : Int32)  , GE X Ω 4 0 0 (emPI σ) 0 0 2 [(0, .ref 22), (1, .ref a1), (2, .int y2), (3, .int y3)] [] σ (b_X10_agrees_2 a1 n y2 y3 σ)
  | 0, _, _ => g_none
  | n + 1, y2, y3 => by
    have hk2 := c_X10_agrees_2 hX hO hΩ a1 ha1 σ n
    unfold b_X10_agrees_2
    refine g_iload_n hX (dc_X10_agrees 2 rfl) rfl 3 rfl ?_
    refine g_aload_n hX (dc_X10_agrees 3 rfl) rfl 0 rfl ?_
    refine g_getI hX (dc_X10_agrees 4 rfl) fl_X10_56 (by decide) rfl (stS hΩ 22 rfl) ?_
    refine g_icmp_ge (tgt := 48) hX (dc_X10_agrees 5 rfl) (by decide) (fun h8 => ?_) (fun h8 => ?_)
    · refine g_iconst (w := (1 : Int32)) hX (dc_X10_agrees 28 rfl) (by decide) ?_
      exact g_iret hX (dc_X10_agrees 29 rfl) rfl rfl (Nat.le_refl _) (Nat.le_refl _)
    · refine g_aload_n hX (dc_X10_agrees 6 rfl) rfl 0 rfl ?_
      refine g_getF (q := 40) hX (dc_X10_agrees 7 rfl) fl_X10_29 (by decide) rfl (stS hΩ 22 rfl) rfl ?_
      refine g_iload_n hX (dc_X10_agrees 8 rfl) rfl 3 rfl ?_
      refine g_chk (fun hc9 => ?_)
      refine g_iald hX (dc_X10_agrees 9 rfl) (stS hΩ 40 rfl) hc9 rfl ?_
      refine g_iload_n hX (dc_X10_agrees 10 rfl) rfl 2 rfl ?_
      refine g_icmp_ne (tgt := 42) hX (dc_X10_agrees 11 rfl) (by decide) (fun h10 => ?_) (fun h10 => ?_)
      · refine g_aload_n hX (dc_X10_agrees 12 rfl) rfl 1 rfl ?_
        refine g_getF (q := (a1 + 1)) hX (dc_X10_agrees 13 rfl) fl_X10_84 (by decide) rfl (ha1.tf 0 rfl) rfl ?_
        refine g_aload_n hX (dc_X10_agrees 14 rfl) rfl 0 rfl ?_
        refine g_getF (q := 41) hX (dc_X10_agrees 15 rfl) fl_X10_33 (by decide) rfl (stS hΩ 22 rfl) rfl ?_
        refine g_iload_n hX (dc_X10_agrees 16 rfl) rfl 3 rfl ?_
        refine g_chk (fun hc11 => ?_)
        refine g_iald hX (dc_X10_agrees 17 rfl) (stS hΩ 41 rfl) hc11 rfl ?_
        refine g_chk (fun hc12 => ?_)
        refine g_iald hX (dc_X10_agrees 18 rfl) (ha1.tf 1 rfl) hc12 rfl ?_
        refine g_aload_n hX (dc_X10_agrees 19 rfl) rfl 0 rfl ?_
        refine g_getF (q := 42) hX (dc_X10_agrees 20 rfl) fl_X10_36 (by decide) rfl (stS hΩ 22 rfl) rfl ?_
        refine g_iload_n hX (dc_X10_agrees 21 rfl) rfl 3 rfl ?_
        refine g_chk (fun hc13 => ?_)
        refine g_iald hX (dc_X10_agrees 22 rfl) (stS hΩ 42 rfl) hc13 rfl ?_
        refine g_icmp_eq (tgt := 42) hX (dc_X10_agrees 23 rfl) (by decide) (fun h14 => ?_) (fun h14 => ?_)
        · exact g_sub [0, 1, 2, 3] rfl (c_X10_agrees_42 hX hO hΩ a1 ha1 σ _ hk2 (y2) (y3))
        · refine g_iconst (w := (0 : Int32)) hX (dc_X10_agrees 24 rfl) (by decide) ?_
          exact g_iret hX (dc_X10_agrees 25 rfl) rfl rfl (Nat.le_refl _) (Nat.le_refl _)
      · exact g_sub [0, 1, 2, 3] rfl (c_X10_agrees_42 hX hO hΩ a1 ha1 σ _ hk2 (y2) (y3))
def b_X10_agrees_0 (a1 : Nat)  (x2 : Int32)  (σ : MS) : Option (Int32) := (b_X10_agrees_2 a1 FU (x2) ((0 : Int32)) σ)
set_option maxHeartbeats 4000000 in
set_option maxRecDepth 20000 in
theorem c_X10_agrees_0 {X : CX} {Ω : OM} (hX : CF X Ω RX10 cX10_agrees 4 (some .boolean) rm_X10_agrees) (hO : OKO Ω) (hΩ : oSH Ω = SHX) (a1 : Nat) (ha1 : sRt Ω a1 shState) (σ : MS)  (x2 : Int32)    : GE X Ω 4 0 0 (emPI σ) 0 0 0 [(0, .ref 22), (1, .ref a1), (2, .int x2)] [] σ (b_X10_agrees_0 a1 x2 σ) := by
  unfold b_X10_agrees_0
  refine g_iconst (w := (0 : Int32)) hX (dc_X10_agrees 0 rfl) (by decide) ?_
  refine g_istore_n (L' := [(3, .int (0 : Int32)), (0, .ref 22), (1, .ref a1), (2, .int x2)]) hX (dc_X10_agrees 1 rfl) rfl (by decide) rfl ?_
  exact g_sub [1, 2, 3, 0] rfl (c_X10_agrees_2 hX hO hΩ a1 ha1 σ FU (x2) ((0 : Int32)))
def f_X10_agrees (a1 : Nat) (x2 : Int32) (σ : MS) : Option (Int32) := b_X10_agrees_0 a1 x2 σ
theorem con_X10_agrees {Ω : OM} (hO : OKO Ω) (hΩ : oSH Ω = SHX) (a1 : Nat) (x2 : Int32) (σ : MS) (ha1 : sRt Ω a1 shState) : Con Ω yX10_agrees cX10_agrees 4 (some .boolean) rm_X10_agrees (emPI σ) [.ref 22, .ref a1, .int x2] σ (f_X10_agrees a1 x2 σ) :=
  con_of hO (by decide +kernel) (Nat.le_of_ble_eq_true rfl) rfl (fun X hX _ => c_X10_agrees_0 hX hO hΩ a1 ha1 σ x2)
def it_J6_bitCount_0f7a4 : List (Nat × Instr × Nat × Nat) := [(0, .iload_n 0, 1, 1), (1, .iload_n 0, 1, 2), (2, .iconst 1, 1, 3), (3, .iushr, 1, 4), (4, .ldc_w 265, 3, 7), (7, .iand, 1, 8), (8, .isub, 1, 9), (9, .istore_n 0, 1, 10), (10, .iload_n 0, 1, 11), (11, .ldc_w 266, 3, 14), (14, .iand, 1, 15), (15, .iload_n 0, 1, 16), (16, .iconst 2, 1, 17), (17, .iushr, 1, 18), (18, .ldc_w 266, 3, 21), (21, .iand, 1, 22), (22, .iadd, 1, 23), (23, .istore_n 0, 1, 24), (24, .iload_n 0, 1, 25), (25, .iload_n 0, 1, 26), (26, .iconst 4, 1, 27), (27, .iushr, 1, 28), (28, .iadd, 1, 29), (29, .ldc_w 267, 3, 32), (32, .iand, 1, 33), (33, .istore_n 0, 1, 34), (34, .iload_n 0, 1, 35), (35, .iload_n 0, 1, 36), (36, .bipush 8, 2, 38), (38, .iushr, 1, 39), (39, .iadd, 1, 40), (40, .istore_n 0, 1, 41), (41, .iload_n 0, 1, 42), (42, .iload_n 0, 1, 43), (43, .bipush 16, 2, 45), (45, .iushr, 1, 46), (46, .iadd, 1, 47), (47, .istore_n 0, 1, 48), (48, .iload_n 0, 1, 49), (49, .bipush 63, 2, 51), (51, .iand, 1, 52), (52, .ireturn, 1, 53)]
theorem id_J6_bitCount_0f7a4 : ∀ q ∈ it_J6_bitCount_0f7a4, decode cJ6_bitCount_0f7a4 q.1 = .ok (q.2.1, q.2.2.1) ∧ q.1 + q.2.2.1 = q.2.2.2 := by decide +kernel
theorem dc_J6_bitCount_0f7a4 {pc : Nat} {i : Instr} {n pc' : Nat} (j : Nat) (h : it_J6_bitCount_0f7a4[j]? = some (pc, i, n, pc')) : Dc cJ6_bitCount_0f7a4 pc i n pc' := dc_of id_J6_bitCount_0f7a4 j h
abbrev rm_J6_bitCount_0f7a4 : Room := { frames := 0, cells := 0, slots := 0, locals := 0 }
def b_J6_bitCount_0f7a4_48    (y0 : Int32)  : Option (Int32) := some (y0 &&& (63 : Int32))
set_option maxHeartbeats 4000000 in
set_option maxRecDepth 20000 in
theorem c_J6_bitCount_0f7a4_48 {X : CX} {Ω : OM} (hX : CF X Ω RJ6 cJ6_bitCount_0f7a4 1 (some .int) rm_J6_bitCount_0f7a4) (hO : OKO Ω) (hΩ : oSH Ω = SHX)   (σ : MS)   (y0 : Int32)   : GE X Ω 1 0 0 (emPI σ) 0 0 48 [(0, .int y0)] [] σ (b_J6_bitCount_0f7a4_48  y0) := by
  unfold b_J6_bitCount_0f7a4_48
  refine g_iload_n hX (dc_J6_bitCount_0f7a4 38 rfl) rfl 0 rfl ?_
  refine g_bipush (w := (63 : Int32)) hX (dc_J6_bitCount_0f7a4 39 rfl) (by decide) ?_
  refine g_iand hX (dc_J6_bitCount_0f7a4 40 rfl) ?_
  exact g_iret hX (dc_J6_bitCount_0f7a4 41 rfl) rfl rfl (Nat.le_refl _) (Nat.le_refl _)
def b_J6_bitCount_0f7a4_41    (y0 : Int32)  : Option (Int32) := (b_J6_bitCount_0f7a4_48 ((y0 + ((y0).toUInt32 >>> (((16 : Int32)).toUInt32 &&& Int32.toUInt32 31)).toInt32)))
set_option maxHeartbeats 4000000 in
set_option maxRecDepth 20000 in
theorem c_J6_bitCount_0f7a4_41 {X : CX} {Ω : OM} (hX : CF X Ω RJ6 cJ6_bitCount_0f7a4 1 (some .int) rm_J6_bitCount_0f7a4) (hO : OKO Ω) (hΩ : oSH Ω = SHX)   (σ : MS)   (y0 : Int32)   : GE X Ω 1 0 0 (emPI σ) 0 0 41 [(0, .int y0)] [] σ (b_J6_bitCount_0f7a4_41  y0) := by
  unfold b_J6_bitCount_0f7a4_41
  refine g_iload_n hX (dc_J6_bitCount_0f7a4 32 rfl) rfl 0 rfl ?_
  refine g_iload_n hX (dc_J6_bitCount_0f7a4 33 rfl) rfl 0 rfl ?_
  refine g_bipush (w := (16 : Int32)) hX (dc_J6_bitCount_0f7a4 34 rfl) (by decide) ?_
  refine g_iushr hX (dc_J6_bitCount_0f7a4 35 rfl) ?_
  refine g_iadd hX (dc_J6_bitCount_0f7a4 36 rfl) ?_
  refine g_istore_n (L' := [(0, .int (y0 + ((y0).toUInt32 >>> (((16 : Int32)).toUInt32 &&& Int32.toUInt32 31)).toInt32))]) hX (dc_J6_bitCount_0f7a4 37 rfl) rfl (by decide) rfl ?_
  exact g_sub [0] rfl (c_J6_bitCount_0f7a4_48 hX hO hΩ σ ((y0 + ((y0).toUInt32 >>> (((16 : Int32)).toUInt32 &&& Int32.toUInt32 31)).toInt32)))
def b_J6_bitCount_0f7a4_34    (y0 : Int32)  : Option (Int32) := (b_J6_bitCount_0f7a4_41 ((y0 + ((y0).toUInt32 >>> (((8 : Int32)).toUInt32 &&& Int32.toUInt32 31)).toInt32)))
set_option maxHeartbeats 4000000 in
set_option maxRecDepth 20000 in
theorem c_J6_bitCount_0f7a4_34 {X : CX} {Ω : OM} (hX : CF X Ω RJ6 cJ6_bitCount_0f7a4 1 (some .int) rm_J6_bitCount_0f7a4) (hO : OKO Ω) (hΩ : oSH Ω = SHX)   (σ : MS)   (y0 : Int32)   : GE X Ω 1 0 0 (emPI σ) 0 0 34 [(0, .int y0)] [] σ (b_J6_bitCount_0f7a4_34  y0) := by
  unfold b_J6_bitCount_0f7a4_34
  refine g_iload_n hX (dc_J6_bitCount_0f7a4 26 rfl) rfl 0 rfl ?_
  refine g_iload_n hX (dc_J6_bitCount_0f7a4 27 rfl) rfl 0 rfl ?_
  refine g_bipush (w := (8 : Int32)) hX (dc_J6_bitCount_0f7a4 28 rfl) (by decide) ?_
  refine g_iushr hX (dc_J6_bitCount_0f7a4 29 rfl) ?_
  refine g_iadd hX (dc_J6_bitCount_0f7a4 30 rfl) ?_
  refine g_istore_n (L' := [(0, .int (y0 + ((y0).toUInt32 >>> (((8 : Int32)).toUInt32 &&& Int32.toUInt32 31)).toInt32))]) hX (dc_J6_bitCount_0f7a4 31 rfl) rfl (by decide) rfl ?_
  exact g_sub [0] rfl (c_J6_bitCount_0f7a4_41 hX hO hΩ σ ((y0 + ((y0).toUInt32 >>> (((8 : Int32)).toUInt32 &&& Int32.toUInt32 31)).toInt32)))
def b_J6_bitCount_0f7a4_24    (y0 : Int32)  : Option (Int32) := (b_J6_bitCount_0f7a4_34 (((y0 + ((y0).toUInt32 >>> (((4 : Int32)).toUInt32 &&& Int32.toUInt32 31)).toInt32) &&& (252645135 : Int32))))
set_option maxHeartbeats 4000000 in
set_option maxRecDepth 20000 in
theorem c_J6_bitCount_0f7a4_24 {X : CX} {Ω : OM} (hX : CF X Ω RJ6 cJ6_bitCount_0f7a4 1 (some .int) rm_J6_bitCount_0f7a4) (hO : OKO Ω) (hΩ : oSH Ω = SHX)   (σ : MS)   (y0 : Int32)   : GE X Ω 1 0 0 (emPI σ) 0 0 24 [(0, .int y0)] [] σ (b_J6_bitCount_0f7a4_24  y0) := by
  unfold b_J6_bitCount_0f7a4_24
  refine g_iload_n hX (dc_J6_bitCount_0f7a4 18 rfl) rfl 0 rfl ?_
  refine g_iload_n hX (dc_J6_bitCount_0f7a4 19 rfl) rfl 0 rfl ?_
  refine g_iconst (w := (4 : Int32)) hX (dc_J6_bitCount_0f7a4 20 rfl) (by decide) ?_
  refine g_iushr hX (dc_J6_bitCount_0f7a4 21 rfl) ?_
  refine g_iadd hX (dc_J6_bitCount_0f7a4 22 rfl) ?_
  refine g_ldcw hX (dc_J6_bitCount_0f7a4 23 rfl) wk_J6_267 ?_
  refine g_iand hX (dc_J6_bitCount_0f7a4 24 rfl) ?_
  refine g_istore_n (L' := [(0, .int ((y0 + ((y0).toUInt32 >>> (((4 : Int32)).toUInt32 &&& Int32.toUInt32 31)).toInt32) &&& (252645135 : Int32)))]) hX (dc_J6_bitCount_0f7a4 25 rfl) rfl (by decide) rfl ?_
  exact g_sub [0] rfl (c_J6_bitCount_0f7a4_34 hX hO hΩ σ (((y0 + ((y0).toUInt32 >>> (((4 : Int32)).toUInt32 &&& Int32.toUInt32 31)).toInt32) &&& (252645135 : Int32))))
def b_J6_bitCount_0f7a4_10    (y0 : Int32)  : Option (Int32) := (b_J6_bitCount_0f7a4_24 (((y0 &&& (858993459 : Int32)) + (((y0).toUInt32 >>> (((2 : Int32)).toUInt32 &&& Int32.toUInt32 31)).toInt32 &&& (858993459 : Int32)))))
set_option maxHeartbeats 4000000 in
set_option maxRecDepth 20000 in
theorem c_J6_bitCount_0f7a4_10 {X : CX} {Ω : OM} (hX : CF X Ω RJ6 cJ6_bitCount_0f7a4 1 (some .int) rm_J6_bitCount_0f7a4) (hO : OKO Ω) (hΩ : oSH Ω = SHX)   (σ : MS)   (y0 : Int32)   : GE X Ω 1 0 0 (emPI σ) 0 0 10 [(0, .int y0)] [] σ (b_J6_bitCount_0f7a4_10  y0) := by
  unfold b_J6_bitCount_0f7a4_10
  refine g_iload_n hX (dc_J6_bitCount_0f7a4 8 rfl) rfl 0 rfl ?_
  refine g_ldcw hX (dc_J6_bitCount_0f7a4 9 rfl) wk_J6_266 ?_
  refine g_iand hX (dc_J6_bitCount_0f7a4 10 rfl) ?_
  refine g_iload_n hX (dc_J6_bitCount_0f7a4 11 rfl) rfl 0 rfl ?_
  refine g_iconst (w := (2 : Int32)) hX (dc_J6_bitCount_0f7a4 12 rfl) (by decide) ?_
  refine g_iushr hX (dc_J6_bitCount_0f7a4 13 rfl) ?_
  refine g_ldcw hX (dc_J6_bitCount_0f7a4 14 rfl) wk_J6_266 ?_
  refine g_iand hX (dc_J6_bitCount_0f7a4 15 rfl) ?_
  refine g_iadd hX (dc_J6_bitCount_0f7a4 16 rfl) ?_
  refine g_istore_n (L' := [(0, .int ((y0 &&& (858993459 : Int32)) + (((y0).toUInt32 >>> (((2 : Int32)).toUInt32 &&& Int32.toUInt32 31)).toInt32 &&& (858993459 : Int32))))]) hX (dc_J6_bitCount_0f7a4 17 rfl) rfl (by decide) rfl ?_
  exact g_sub [0] rfl (c_J6_bitCount_0f7a4_24 hX hO hΩ σ (((y0 &&& (858993459 : Int32)) + (((y0).toUInt32 >>> (((2 : Int32)).toUInt32 &&& Int32.toUInt32 31)).toInt32 &&& (858993459 : Int32)))))
def b_J6_bitCount_0f7a4_0   (x0 : Int32)   : Option (Int32) := (b_J6_bitCount_0f7a4_10 ((x0 - (((x0).toUInt32 >>> (((1 : Int32)).toUInt32 &&& Int32.toUInt32 31)).toInt32 &&& (1431655765 : Int32)))))
set_option maxHeartbeats 4000000 in
set_option maxRecDepth 20000 in
theorem c_J6_bitCount_0f7a4_0 {X : CX} {Ω : OM} (hX : CF X Ω RJ6 cJ6_bitCount_0f7a4 1 (some .int) rm_J6_bitCount_0f7a4) (hO : OKO Ω) (hΩ : oSH Ω = SHX)   (σ : MS)  (x0 : Int32)    : GE X Ω 1 0 0 (emPI σ) 0 0 0 [(0, .int x0)] [] σ (b_J6_bitCount_0f7a4_0  x0) := by
  unfold b_J6_bitCount_0f7a4_0
  refine g_iload_n hX (dc_J6_bitCount_0f7a4 0 rfl) rfl 0 rfl ?_
  refine g_iload_n hX (dc_J6_bitCount_0f7a4 1 rfl) rfl 0 rfl ?_
  refine g_iconst (w := (1 : Int32)) hX (dc_J6_bitCount_0f7a4 2 rfl) (by decide) ?_
  refine g_iushr hX (dc_J6_bitCount_0f7a4 3 rfl) ?_
  refine g_ldcw hX (dc_J6_bitCount_0f7a4 4 rfl) wk_J6_265 ?_
  refine g_iand hX (dc_J6_bitCount_0f7a4 5 rfl) ?_
  refine g_isub hX (dc_J6_bitCount_0f7a4 6 rfl) ?_
  refine g_istore_n (L' := [(0, .int (x0 - (((x0).toUInt32 >>> (((1 : Int32)).toUInt32 &&& Int32.toUInt32 31)).toInt32 &&& (1431655765 : Int32))))]) hX (dc_J6_bitCount_0f7a4 7 rfl) rfl (by decide) rfl ?_
  exact g_sub [0] rfl (c_J6_bitCount_0f7a4_10 hX hO hΩ σ ((x0 - (((x0).toUInt32 >>> (((1 : Int32)).toUInt32 &&& Int32.toUInt32 31)).toInt32 &&& (1431655765 : Int32)))))
def f_J6_bitCount_0f7a4 (x0 : Int32)  : Option (Int32) := b_J6_bitCount_0f7a4_0  x0 
theorem con_J6_bitCount_0f7a4 {Ω : OM} (hO : OKO Ω) (hΩ : oSH Ω = SHX) (x0 : Int32) (σ : MS)  : Con Ω yJ6_bitCount_0f7a4 cJ6_bitCount_0f7a4 1 (some .int) rm_J6_bitCount_0f7a4 (emPI σ) [.int x0] σ (f_J6_bitCount_0f7a4 x0 ) :=
  con_ofF hO (by decide +kernel) (Nat.le_of_ble_eq_true rfl) rfl (fun X hX _ => c_J6_bitCount_0f7a4_0 hX hO hΩ   σ x0)
