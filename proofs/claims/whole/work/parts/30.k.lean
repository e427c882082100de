theorem wi_X3_init : Cond.instanceMethod yX3_init ∈ gd_tbl := gd_t1 55 (by decide +kernel) (by decide +kernel)
theorem ma_J7_150 : Cond.methodLink RJ7 150 arraycopyName ∈ gd_tbl ∧ Cond.native arraycopyName ∈ gd_tbl ∧ Cond.static arraycopyName ∈ gd_tbl ∧ Cond.initialized "java/lang/System" ∈ gd_tbl := ⟨gd_t1 719 (by decide +kernel) (by decide +kernel), gd_t1 601 (by decide +kernel) (by decide +kernel), gd_t1 600 (by decide +kernel) (by decide +kernel), gd_t1 18 (by decide +kernel) (by decide +kernel)⟩
theorem wi_X9_init : Cond.instanceMethod yX9_init ∈ gd_tbl := gd_t1 33 (by decide +kernel) (by decide +kernel)
theorem wi_X10_init : Cond.instanceMethod yX10_init ∈ gd_tbl := gd_t1 261 (by decide +kernel) (by decide +kernel)
theorem wi_X5_init : Cond.instanceMethod yX5_init ∈ gd_tbl := gd_t1 335 (by decide +kernel) (by decide +kernel)
theorem wi_X0_init : Cond.instanceMethod yX0_init ∈ gd_tbl := gd_t1 348 (by decide +kernel) (by decide +kernel)
theorem ml_J7_304 : MLs RJ7 304 yJ9_min_7cf53 cJ9_min_7cf53 2 (some .int) 2 := ⟨⟨gd_t1 716 (by decide +kernel) (by decide +kernel), wn_J9, wc_J9_min_7cf53, by decide, by decide, by decide +kernel⟩, wt_J9_min_7cf53⟩
def it_X0_init : List (Nat × Instr × Nat × Nat) := [(0, .aload_n 0, 1, 1), (1, .invokespecial 3, 3, 4), (4, .aload_n 0, 1, 5), (5, .bipush 6, 2, 7), (7, .newarray .int, 2, 9), (9, .putfield 9, 3, 12), (12, .aload_n 0, 1, 13), (13, .bipush 6, 2, 15), (15, .newarray .int, 2, 17), (17, .putfield 15, 3, 20), (20, .return_, 1, 21)]
theorem id_X0_init : ∀ q ∈ it_X0_init, decode cX0_init q.1 = .ok (q.2.1, q.2.2.1) ∧ q.1 + q.2.2.1 = q.2.2.2 := by decide +kernel
theorem dc_X0_init {pc : Nat} {i : Instr} {n pc' : Nat} (j : Nat) (h : it_X0_init[j]? = some (pc, i, n, pc')) : Dc cX0_init pc i n pc' := dc_of id_X0_init j h
abbrev rm_X0_init : Room := { frames := 1, cells := 2, slots := 12, locals := 20 }
def b_X0_init_0 (a0 : Nat)    (σ : MS) : Option (MS) := chk (sN σ < 1000000) (chk (sN σ + 1 < 1000000) (@chk (finOK (wR (al (wR (al σ 0 6) a0 0 (some (sN σ))) 0 6) a0 1 (some (sN σ + 1))) a0 0) (dec_finOK (wR (al (wR (al σ 0 6) a0 0 (some (sN σ))) 0 6) a0 1 (some (sN σ + 1))) a0 0) _ (some (fin (wR (al (wR (al σ 0 6) a0 0 (some (sN σ))) 0 6) a0 1 (some (sN σ + 1))) a0 0))))
set_option maxHeartbeats 4000000 in
set_option maxRecDepth 20000 in
theorem c_X0_init_0 {X : CX} {Ω : OM} (hX : CF X Ω RX0 cX0_init 1 none rm_X0_init) (hO : OKO Ω) (hal : oAl Ω) (hn : X.2.2.2.2.2.2.2.2.1.name = "<init>") (a0 : Nat) (hs0 : (oSH Ω).length ≤ a0)    (σ : MS) (ha0 : tf Ω σ a0 (30 + 0, 0)) : GE X Ω 1 2 12 (emWV) 0 0 0 [(0, .ref a0)] [] σ (b_X0_init_0 a0 σ) := by
  unfold b_X0_init_0
  refine g_aload_n hX (dc_X0_init 0 rfl) rfl 0 rfl ?_
  refine g_objinit hX (dc_X0_init 1 rfl) mo_X0_3 wo_i wo_c (by decide) (by decide) (Nat.le_of_ble_eq_true rfl) ?_
  refine g_aload_n hX (dc_X0_init 2 rfl) rfl 0 rfl ?_
  refine g_bipush (w := (6 : Int32)) hX (dc_X0_init 3 rfl) (by decide) ?_
  refine g_chk (fun hl4 => ?_)
  refine g_newa_int (N := 6) hX hal hl4 (dc_X0_init 4 rfl) wa_int (by decide) (by decide) (by decide) (by decide) (by decide) ?_
  refine g_putN (raw := true) (r := (some (sN σ))) hX (dc_X0_init 5 rfl) fl_X0_9 (by decide) (Or.inr ⟨rfl, rfl⟩) (fun w => by cases w <;> exact ⟨rfl, rfl⟩) (tf_al ha0) (Or.inr ⟨hn, rfl, rfl⟩) ?_
  refine g_aload_n hX (dc_X0_init 6 rfl) rfl 0 rfl ?_
  refine g_bipush (w := (6 : Int32)) hX (dc_X0_init 7 rfl) (by decide) ?_
  refine g_chk (fun hl5 => ?_)
  refine g_newa_int (N := 6) hX hal hl5 (dc_X0_init 8 rfl) wa_int (by decide) (by decide) (by decide) (by decide) (by decide) ?_
  refine g_putN (raw := true) (r := (some (sN σ + 1))) hX (dc_X0_init 9 rfl) fl_X0_15 (by decide) (Or.inr ⟨rfl, rfl⟩) (fun w => by cases w <;> exact ⟨rfl, rfl⟩) (tf_al (tf_al ha0)) (Or.inr ⟨hn, rfl, rfl⟩) ?_
  refine g_chkd (fun hf6 => ?_)
  refine g_fin (tf_al (tf_al ha0)) (by decide) hf6 hs0 ?_
  exact g_vret hX (dc_X0_init 10 rfl) rfl (by decide) (by decide)
def f_X0_init (a0 : Nat) (σ : MS) : Option (MS) := b_X0_init_0 a0  σ
theorem con_X0_init {Ω : OM} (hO : OKO Ω) (hal : oAl Ω) (a0 : Nat) (σ : MS) (ha0 : tf Ω σ a0 (30 + 0, 0)) (hs0 : (oSH Ω).length ≤ a0) : Con Ω yX0_init cX0_init 1 none rm_X0_init (emWV) [.ref a0] σ (f_X0_init a0 σ) :=
  con_of hO (by decide +kernel) (Nat.le_of_ble_eq_true rfl) rfl (fun X hX hn => c_X0_init_0 hX hO hal hn a0 hs0  σ ha0)
def it_X0_tryRows : List (Nat × Instr × Nat × Nat) := [(0, .iload 4, 2, 2), (2, .aload_n 0, 1, 3), (3, .getfield 24, 3, 6), (6, .if_icmp .lt 4, 3, 9), (9, .return_, 1, 10), (10, .iload_n 2, 1, 11), (11, .aload_n 1, 1, 12), (12, .getfield 18, 3, 15), (15, .if_icmp .ge 9, 3, 18), (18, .iload_n 2, 1, 19), (19, .bipush 6, 2, 21), (21, .if_icmp .lt 25, 3, 24), (24, .aload_n 0, 1, 25), (25, .iload 4, 2, 27), (27, .putfield 24, 3, 30), (30, .aload_n 0, 1, 31), (31, .getfield 9, 3, 34), (34, .iconst 0, 1, 35), (35, .aload_n 0, 1, 36), (36, .getfield 15, 3, 39), (39, .iconst 0, 1, 40), (40, .bipush 6, 2, 42), (42, .invokestatic 31, 3, 45), (45, .return_, 1, 46), (46, .aload_n 0, 1, 47), (47, .getfield 9, 3, 50), (50, .iload_n 2, 1, 51), (51, .iconst (-1), 1, 52), (52, .iastore, 1, 53), (53, .aload_n 0, 1, 54), (54, .aload_n 1, 1, 55), (55, .iload_n 2, 1, 56), (56, .iconst 1, 1, 57), (57, .iadd, 1, 58), (58, .iload_n 3, 1, 59), (59, .iload 4, 2, 61), (61, .iconst 1, 1, 62), (62, .iadd, 1, 63), (63, .invokevirtual 27, 3, 66), (66, .iconst 0, 1, 67), (67, .istore 5, 2, 69), (69, .iload 5, 2, 71), (71, .aload_n 1, 1, 72), (72, .getfield 18, 3, 75), (75, .if_icmp .ge 73, 3, 78), (78, .aload_n 1, 1, 79), (79, .getfield 37, 3, 82), (82, .iload_n 2, 1, 83), (83, .iaload, 1, 84), (84, .iload_n 3, 1, 85), (85, .iconst (-1), 1, 86), (86, .ixor, 1, 87), (87, .iand, 1, 88), (88, .iconst 1, 1, 89), (89, .iload 5, 2, 91), (91, .ishl, 1, 92), (92, .iand, 1, 93), (93, .ifCond .eq 7, 3, 96), (96, .iconst 1, 1, 97), (97, .goto 4, 3, 100), (100, .iconst 0, 1, 101), (101, .istore 6, 2, 103), (103, .iload 6, 2, 105), (105, .ifCond .eq 37, 3, 108), (108, .aload_n 0, 1, 109), (109, .iload 5, 2, 111), (111, .iload_n 2, 1, 112), (112, .invokevirtual 40, 3, 115), (115, .ifCond .ne 27, 3, 118), (118, .aload_n 0, 1, 119), (119, .getfield 9, 3, 122), (122, .iload_n 2, 1, 123), (123, .iload 5, 2, 125), (125, .iastore, 1, 126), (126, .aload_n 0, 1, 127), (127, .aload_n 1, 1, 128), (128, .iload_n 2, 1, 129), (129, .iconst 1, 1, 130), (130, .iadd, 1, 131), (131, .iload_n 3, 1, 132), (132, .iconst 1, 1, 133), (133, .iload 5, 2, 135), (135, .ishl, 1, 136), (136, .ior, 1, 137), (137, .iload 4, 2, 139), (139, .invokevirtual 27, 3, 142), (142, .iinc 5 1, 3, 145), (145, .goto (-76), 3, 148), (148, .return_, 1, 149)]
theorem id_X0_tryRows : ∀ q ∈ it_X0_tryRows, decode cX0_tryRows q.1 = .ok (q.2.1, q.2.2.1) ∧ q.1 + q.2.2.1 = q.2.2.2 := by decide +kernel
theorem dc_X0_tryRows {pc : Nat} {i : Instr} {n pc' : Nat} (j : Nat) (h : it_X0_tryRows[j]? = some (pc, i, n, pc')) : Dc cX0_tryRows pc i n pc' := dc_of id_X0_tryRows j h
def rmT (d : Nat) : Room := { frames := d + 2, cells := 0, slots := 0, locals := 100 * d + 200 }
def b_X0_tryRows_142 (fr : Int32 → Int32 → Int32 → MS → Option MS)  (k69 : Int32 → Int32 → Int32 → Int32 → MS → Option (MS))  (y2 : Int32) (y3 : Int32) (y4 : Int32) (y5 : Int32) (σ : MS) : Option (MS) := (k69 (y2) (y3) (y4) ((y5 + (1 : Int32))) σ)
set_option maxHeartbeats 4000000 in
set_option maxRecDepth 20000 in
theorem c_X0_tryRows_142 {X : CX} {Ω : OM} {d : Nat} (hX : CF X Ω RX0 cX0_tryRows 7 none (rmT (d + 1))) (hO : OKO Ω) (hΩ : oSH Ω = SHX) (fr : Int32 → Int32 → Int32 → MS → Option MS) (hfr : ∀ (x2 x3 x4 : Int32) (σ : MS), Con Ω yX0_tryRows cX0_tryRows 7 none (rmT d) (emWV) [.ref 52, .ref 23, .int x2, .int x3, .int x4] σ (fr x2 x3 x4 σ))   (k69 : Int32 → Int32 → Int32 → Int32 → MS → Option (MS)) (hk69 : ∀ (y2 : Int32) (y3 : Int32) (y4 : Int32) (y5 : Int32) (σ : MS) , GE X Ω 7 0 0 (emWV) 0 0 69 [(0, .ref 52), (1, .ref 23), (2, .int y2), (3, .int y3), (4, .int y4), (5, .int y5)] [] σ (k69 y2 y3 y4 y5 σ))  (y2 : Int32) (y3 : Int32) (y4 : Int32) (y5 : Int32) (σ : MS)  : GE X Ω 7 0 0 (emWV) 0 0 142 [(0, .ref 52), (1, .ref 23), (2, .int y2), (3, .int y3), (4, .int y4), (5, .int y5)] [] σ (b_X0_tryRows_142 fr  k69 y2 y3 y4 y5 σ) := by
  unfold b_X0_tryRows_142
  refine g_iinc (w := (y5 + (1 : Int32))) (L' := [(5, .int (y5 + (1 : Int32))), (0, .ref 52), (1, .ref 23), (2, .int y2), (3, .int y3), (4, .int y4)]) hX (dc_X0_tryRows 86 rfl) 5 rfl rfl (by decide) rfl ?_
  refine g_goto (tgt := 69) hX (dc_X0_tryRows 87 rfl) (by decide) ?_
  exact g_sub [1, 2, 3, 4, 5, 0] rfl (hk69 (y2) (y3) (y4) ((y5 + (1 : Int32))) σ )
def b_X0_tryRows_101 (fr : Int32 → Int32 → Int32 → MS → Option MS)  (k69 : Int32 → Int32 → Int32 → Int32 → MS → Option (MS))  (y2 : Int32) (y3 : Int32) (y4 : Int32) (y5 : Int32) (s0 : Int32) (σ : MS) : Option (MS) := (if s0 = 0 then (b_X0_tryRows_142 fr k69 (y2) (y3) (y4) (y5) σ) else (f_X0_leadsTo y5 y2 σ).bind (fun r15 => (if r15 = 0 then chk (inb y2 6) ((fr (y2 + (1 : Int32)) (y3 ||| ((1 : Int32) <<< (y5 &&& 31))) y4 (wI σ 53 (ix y2) y5)).bind (fun r18 => (b_X0_tryRows_142 fr k69 (y2) (y3) (y4) (y5) r18))) else (b_X0_tryRows_142 fr k69 (y2) (y3) (y4) (y5) σ))))
set_option maxHeartbeats 4000000 in
set_option maxRecDepth 20000 in
theorem c_X0_tryRows_101 {X : CX} {Ω : OM} {d : Nat} (hX : CF X Ω RX0 cX0_tryRows 7 none (rmT (d + 1))) (hO : OKO Ω) (hΩ : oSH Ω = SHX) (fr : Int32 → Int32 → Int32 → MS → Option MS) (hfr : ∀ (x2 x3 x4 : Int32) (σ : MS), Con Ω yX0_tryRows cX0_tryRows 7 none (rmT d) (emWV) [.ref 52, .ref 23, .int x2, .int x3, .int x4] σ (fr x2 x3 x4 σ))   (k69 : Int32 → Int32 → Int32 → Int32 → MS → Option (MS)) (hk69 : ∀ (y2 : Int32) (y3 : Int32) (y4 : Int32) (y5 : Int32) (σ : MS) , GE X Ω 7 0 0 (emWV) 0 0 69 [(0, .ref 52), (1, .ref 23), (2, .int y2), (3, .int y3), (4, .int y4), (5, .int y5)] [] σ (k69 y2 y3 y4 y5 σ))  (y2 : Int32) (y3 : Int32) (y4 : Int32) (y5 : Int32) (s0 : Int32) (σ : MS)  : GE X Ω 7 0 0 (emWV) 0 0 101 [(0, .ref 52), (1, .ref 23), (2, .int y2), (3, .int y3), (4, .int y4), (5, .int y5)] [.int s0] σ (b_X0_tryRows_101 fr  k69 y2 y3 y4 y5 s0 σ) := by
  unfold b_X0_tryRows_101
  refine g_istore (L' := [(6, .int s0), (0, .ref 52), (1, .ref 23), (2, .int y2), (3, .int y3), (4, .int y4), (5, .int y5)]) hX (dc_X0_tryRows 61 rfl) (by decide) rfl ?_
  refine g_iload hX (dc_X0_tryRows 62 rfl) 0 rfl ?_
  refine g_if_eq (tgt := 142) hX (dc_X0_tryRows 63 rfl) (by decide) (fun h14 => ?_) (fun h14 => ?_)
  · exact g_sub [1, 2, 3, 4, 5, 6] rfl (c_X0_tryRows_142 hX hO hΩ fr hfr _ hk69 (y2) (y3) (y4) (y5) σ)
  · refine g_aload_n hX (dc_X0_tryRows 64 rfl) rfl 1 rfl ?_
    refine g_iload hX (dc_X0_tryRows 65 rfl) 6 rfl ?_
    refine g_iload_n hX (dc_X0_tryRows 66 rfl) rfl 3 rfl ?_
    refine gV_PI (As := [.int y5, .int y2]) (st := []) hX (dc_X0_tryRows 67 rfl) ml_X0_40 (con_X0_leadsTo hO hΩ y5 y2 σ) (stS hΩ 52 rfl) rfl rfl ⟨by simp only [rmT, rm_X0_leadsTo]; omega, by simp only [rmT, rm_X0_leadsTo]; omega⟩ ⟨rfl, rfl⟩ ⟨Nat.zero_le _, Nat.zero_le _⟩ (Nat.le_of_ble_eq_true rfl) (fun r15 _ => ?_)
    refine g_if_ne (tgt := 142) hX (dc_X0_tryRows 68 rfl) (by decide) (fun h16 => ?_) (fun h16 => ?_)
    · refine g_aload_n hX (dc_X0_tryRows 69 rfl) rfl 1 rfl ?_
      refine g_getF (q := 53) hX (dc_X0_tryRows 70 rfl) fl_X0_9 (by decide) rfl (stS hΩ 52 rfl) rfl ?_
      refine g_iload_n hX (dc_X0_tryRows 71 rfl) rfl 3 rfl ?_
      refine g_iload hX (dc_X0_tryRows 72 rfl) 6 rfl ?_
      refine g_chk (fun hc17 => ?_)
      refine g_iast hX (dc_X0_tryRows 73 rfl) (stS hΩ 53 rfl) hc17 rfl ?_
      refine g_aload_n hX (dc_X0_tryRows 74 rfl) rfl 1 rfl ?_
      refine g_aload_n hX (dc_X0_tryRows 75 rfl) rfl 2 rfl ?_
      refine g_iload_n hX (dc_X0_tryRows 76 rfl) rfl 3 rfl ?_
      refine g_iconst (w := (1 : Int32)) hX (dc_X0_tryRows 77 rfl) (by decide) ?_
      refine g_iadd hX (dc_X0_tryRows 78 rfl) ?_
      refine g_iload_n hX (dc_X0_tryRows 79 rfl) rfl 4 rfl ?_
      refine g_iconst (w := (1 : Int32)) hX (dc_X0_tryRows 80 rfl) (by decide) ?_
      refine g_iload hX (dc_X0_tryRows 81 rfl) 6 rfl ?_
      refine g_ishl hX (dc_X0_tryRows 82 rfl) ?_
      refine g_ior hX (dc_X0_tryRows 83 rfl) ?_
      refine g_iload hX (dc_X0_tryRows 84 rfl) 5 rfl ?_
      refine gV_WV (As := [.ref 23, .int (y2 + (1 : Int32)), .int (y3 ||| ((1 : Int32) <<< (y5 &&& 31))), .int y4]) (st := []) hX (dc_X0_tryRows 85 rfl) ml_X0_27 (hfr (y2 + (1 : Int32)) (y3 ||| ((1 : Int32) <<< (y5 &&& 31))) y4 (wI σ 53 (ix y2) y5)) (stS hΩ 52 rfl) rfl rfl ⟨by simp only [rmT]; omega, by simp only [rmT]; omega⟩ ⟨rfl, rfl⟩ ⟨Nat.zero_le _, Nat.zero_le _⟩ (Nat.le_of_ble_eq_true rfl) (fun r18 _ => ?_)
      exact g_sub [1, 2, 3, 4, 5, 6] rfl (c_X0_tryRows_142 hX hO hΩ fr hfr _ hk69 (y2) (y3) (y4) (y5) r18)
    · exact g_sub [1, 2, 3, 4, 5, 6] rfl (c_X0_tryRows_142 hX hO hΩ fr hfr _ hk69 (y2) (y3) (y4) (y5) σ)
def b_X0_tryRows_69 (fr : Int32 → Int32 → Int32 → MS → Option MS)   : Nat → Int32 → Int32 → Int32 → Int32 → MS → Option (MS)
  | 0, _, _, _, _, _ => none
  | n + 1, y2, y3, y4, y5, σ => (if (sI σ 23 4) ≤ y5 then some (σ) else chk (inb y2 6) ((if (((sI σ 30 (ix y2)) &&& (y3 ^^^ (-1 : Int32))) &&& ((1 : Int32) <<< (y5 &&& 31))) = 0 then (b_X0_tryRows_101 fr (b_X0_tryRows_69 fr  n) (y2) (y3) (y4) (y5) ((0 : Int32)) σ) else (b_X0_tryRows_101 fr (b_X0_tryRows_69 fr  n) (y2) (y3) (y4) (y5) ((1 : Int32)) σ))))
set_option maxHeartbeats 4000000 in
set_option maxRecDepth 20000 in
theorem c_X0_tryRows_69 {X : CX} {Ω : OM} {d : Nat} (hX : CF X Ω RX0 cX0_tryRows 7 none (rmT (d + 1))) (hO : OKO Ω) (hΩ : oSH Ω = SHX) (fr : Int32 → Int32 → Int32 → MS → Option MS) (hfr : ∀ (x2 x3 x4 : Int32) (σ : MS), Con Ω yX0_tryRows cX0_tryRows 7 none (rmT d) (emWV) [.ref 52, .ref 23, .int x2, .int x3, .int x4] σ (fr x2 x3 x4 σ))    : ∀ (n : Nat) (y2 : Int32) (y3 : Int32) (y4 : Int32) (y5 : Int32) (σ : MS) , GE X Ω 7 0 0 (emWV) 0 0 69 [(0, .ref 52), (1, .ref 23), (2, .int y2), (3, .int y3), (4, .int y4), (5, .int y5)] [] σ (b_X0_tryRows_69 fr  n y2 y3 y4 y5 σ)
  | 0, _, _, _, _, _ => g_none
  | n + 1, y2, y3, y4, y5, σ => by
    have hk69 := c_X0_tryRows_69 hX hO hΩ fr hfr  n
    unfold b_X0_tryRows_69
    refine g_iload hX (dc_X0_tryRows 41 rfl) 5 rfl ?_
    refine g_aload_n hX (dc_X0_tryRows 42 rfl) rfl 1 rfl ?_
    refine g_getI hX (dc_X0_tryRows 43 rfl) fl_X0_18 (by decide) rfl (stS hΩ 23 rfl) ?_
    refine g_icmp_ge (tgt := 148) hX (dc_X0_tryRows 44 rfl) (by decide) (fun h19 => ?_) (fun h19 => ?_)
    · exact g_vret hX (dc_X0_tryRows 88 rfl) rfl (by decide) (by decide)
    · refine g_aload_n hX (dc_X0_tryRows 45 rfl) rfl 1 rfl ?_
      refine g_getF (q := 30) hX (dc_X0_tryRows 46 rfl) fl_X0_37 (by decide) rfl (stS hΩ 23 rfl) rfl ?_
      refine g_iload_n hX (dc_X0_tryRows 47 rfl) rfl 2 rfl ?_
      refine g_chk (fun hc20 => ?_)
      refine g_iald hX (dc_X0_tryRows 48 rfl) (stS hΩ 30 rfl) hc20 rfl ?_
      refine g_iload_n hX (dc_X0_tryRows 49 rfl) rfl 3 rfl ?_
      refine g_iconst (w := (-1 : Int32)) hX (dc_X0_tryRows 50 rfl) (by decide) ?_
      refine g_ixor hX (dc_X0_tryRows 51 rfl) ?_
      refine g_iand hX (dc_X0_tryRows 52 rfl) ?_
      refine g_iconst (w := (1 : Int32)) hX (dc_X0_tryRows 53 rfl) (by decide) ?_
      refine g_iload hX (dc_X0_tryRows 54 rfl) 5 rfl ?_
      refine g_ishl hX (dc_X0_tryRows 55 rfl) ?_
      refine g_iand hX (dc_X0_tryRows 56 rfl) ?_
      refine g_if_eq (tgt := 100) hX (dc_X0_tryRows 57 rfl) (by decide) (fun h21 => ?_) (fun h21 => ?_)
      · refine g_iconst (w := (0 : Int32)) hX (dc_X0_tryRows 60 rfl) (by decide) ?_
        exact g_sub [0, 1, 2, 3, 4, 5] rfl (c_X0_tryRows_101 hX hO hΩ fr hfr _ hk69 (y2) (y3) (y4) (y5) ((0 : Int32)) σ)
      · refine g_iconst (w := (1 : Int32)) hX (dc_X0_tryRows 58 rfl) (by decide) ?_
        refine g_goto (tgt := 101) hX (dc_X0_tryRows 59 rfl) (by decide) ?_
        exact g_sub [0, 1, 2, 3, 4, 5] rfl (c_X0_tryRows_101 hX hO hΩ fr hfr _ hk69 (y2) (y3) (y4) (y5) ((1 : Int32)) σ)
def b_X0_tryRows_24 (fr : Int32 → Int32 → Int32 → MS → Option MS)    (y4 : Int32) (σ : MS) : Option (MS) := some ((wW (wI σ 52 2 y4) 54 (va_cpy (sI (wI σ 52 2 y4) 53) (sI (wI σ 52 2 y4) 54) (ix (0 : Int32)) (ix (0 : Int32)) (ix (6 : Int32)))))
set_option maxHeartbeats 4000000 in
set_option maxRecDepth 20000 in
theorem c_X0_tryRows_24 {X : CX} {Ω : OM} {d : Nat} (hX : CF X Ω RX0 cX0_tryRows 7 none (rmT (d + 1))) (hO : OKO Ω) (hΩ : oSH Ω = SHX) (fr : Int32 → Int32 → Int32 → MS → Option MS) (hfr : ∀ (x2 x3 x4 : Int32) (σ : MS), Con Ω yX0_tryRows cX0_tryRows 7 none (rmT d) (emWV) [.ref 52, .ref 23, .int x2, .int x3, .int x4] σ (fr x2 x3 x4 σ))     (y4 : Int32) (σ : MS)  : GE X Ω 7 0 0 (emWV) 0 0 24 [(0, .ref 52), (4, .int y4)] [] σ (b_X0_tryRows_24 fr  y4 σ) := by
  unfold b_X0_tryRows_24
  refine g_aload_n hX (dc_X0_tryRows 12 rfl) rfl 0 rfl ?_
  refine g_iload hX (dc_X0_tryRows 13 rfl) 1 rfl ?_
  refine g_putI (raw := false) hX (dc_X0_tryRows 14 rfl) fl_X0_24 (by decide) ⟨rfl, rfl⟩ ⟨rfl, rfl⟩ (stS hΩ 52 rfl) ?_
  refine g_aload_n hX (dc_X0_tryRows 15 rfl) rfl 0 rfl ?_
  refine g_getF (q := 53) hX (dc_X0_tryRows 16 rfl) fl_X0_9 (by decide) rfl (stS hΩ 52 rfl) rfl ?_
  refine g_iconst (w := (0 : Int32)) hX (dc_X0_tryRows 17 rfl) (by decide) ?_
  refine g_aload_n hX (dc_X0_tryRows 18 rfl) rfl 0 rfl ?_
  refine g_getF (q := 54) hX (dc_X0_tryRows 19 rfl) fl_X0_15 (by decide) rfl (stS hΩ 52 rfl) rfl ?_
  refine g_iconst (w := (0 : Int32)) hX (dc_X0_tryRows 20 rfl) (by decide) ?_
  refine g_bipush (w := (6 : Int32)) hX (dc_X0_tryRows 21 rfl) (by decide) ?_
  refine g_copy hX (dc_X0_tryRows 22 rfl) ma_X0_31 (stS hΩ 53 rfl) (stS hΩ 54 rfl) (by decide) (by simp only [rmT]; omega) (by have h9 : nativeFrameWords "java/lang/System" "arraycopy" 5 ≤ 41 := (by decide); simp only [rmT]; omega) (Nat.le_of_ble_eq_true rfl) ?_
  exact g_vret hX (dc_X0_tryRows 23 rfl) rfl (by decide) (by decide)
def b_X0_tryRows_0 (fr : Int32 → Int32 → Int32 → MS → Option MS)   (x2 : Int32) (x3 : Int32) (x4 : Int32)  (σ : MS) : Option (MS) := (if x4 < (sI σ 52 2) then (if (sI σ 23 4) ≤ x2 then (b_X0_tryRows_24 fr (x4) σ) else (if x2 < (6 : Int32) then chk (inb x2 6) ((fr (x2 + (1 : Int32)) x3 (x4 + (1 : Int32)) (wI σ 53 (ix x2) (-1 : Int32))).bind (fun r26 => (b_X0_tryRows_69 fr FU (x2) (x3) (x4) ((0 : Int32)) r26))) else (b_X0_tryRows_24 fr (x4) σ))) else some (σ))
set_option maxHeartbeats 4000000 in
set_option maxRecDepth 20000 in
theorem c_X0_tryRows_0 {X : CX} {Ω : OM} {d : Nat} (hX : CF X Ω RX0 cX0_tryRows 7 none (rmT (d + 1))) (hO : OKO Ω) (hΩ : oSH Ω = SHX) (fr : Int32 → Int32 → Int32 → MS → Option MS) (hfr : ∀ (x2 x3 x4 : Int32) (σ : MS), Con Ω yX0_tryRows cX0_tryRows 7 none (rmT d) (emWV) [.ref 52, .ref 23, .int x2, .int x3, .int x4] σ (fr x2 x3 x4 σ))    (x2 : Int32) (x3 : Int32) (x4 : Int32)  (σ : MS)  : GE X Ω 7 0 0 (emWV) 0 0 0 [(0, .ref 52), (1, .ref 23), (2, .int x2), (3, .int x3), (4, .int x4)] [] σ (b_X0_tryRows_0 fr  x2 x3 x4 σ) := by
  unfold b_X0_tryRows_0
  refine g_iload hX (dc_X0_tryRows 0 rfl) 4 rfl ?_
  refine g_aload_n hX (dc_X0_tryRows 1 rfl) rfl 0 rfl ?_
  refine g_getI hX (dc_X0_tryRows 2 rfl) fl_X0_24 (by decide) rfl (stS hΩ 52 rfl) ?_
  refine g_icmp_lt (tgt := 10) hX (dc_X0_tryRows 3 rfl) (by decide) (fun h22 => ?_) (fun h22 => ?_)
  · refine g_iload_n hX (dc_X0_tryRows 5 rfl) rfl 2 rfl ?_
    refine g_aload_n hX (dc_X0_tryRows 6 rfl) rfl 1 rfl ?_
    refine g_getI hX (dc_X0_tryRows 7 rfl) fl_X0_18 (by decide) rfl (stS hΩ 23 rfl) ?_
    refine g_icmp_ge (tgt := 24) hX (dc_X0_tryRows 8 rfl) (by decide) (fun h23 => ?_) (fun h23 => ?_)
    · exact g_sub [0, 4] rfl (c_X0_tryRows_24 hX hO hΩ fr hfr (x4) σ)
    · refine g_iload_n hX (dc_X0_tryRows 9 rfl) rfl 2 rfl ?_
      refine g_bipush (w := (6 : Int32)) hX (dc_X0_tryRows 10 rfl) (by decide) ?_
      refine g_icmp_lt (tgt := 46) hX (dc_X0_tryRows 11 rfl) (by decide) (fun h24 => ?_) (fun h24 => ?_)
      · refine g_aload_n hX (dc_X0_tryRows 24 rfl) rfl 0 rfl ?_
        refine g_getF (q := 53) hX (dc_X0_tryRows 25 rfl) fl_X0_9 (by decide) rfl (stS hΩ 52 rfl) rfl ?_
        refine g_iload_n hX (dc_X0_tryRows 26 rfl) rfl 2 rfl ?_
        refine g_iconst (w := (-1 : Int32)) hX (dc_X0_tryRows 27 rfl) (by decide) ?_
        refine g_chk (fun hc25 => ?_)
        refine g_iast hX (dc_X0_tryRows 28 rfl) (stS hΩ 53 rfl) hc25 rfl ?_
        refine g_aload_n hX (dc_X0_tryRows 29 rfl) rfl 0 rfl ?_
        refine g_aload_n hX (dc_X0_tryRows 30 rfl) rfl 1 rfl ?_
        refine g_iload_n hX (dc_X0_tryRows 31 rfl) rfl 2 rfl ?_
        refine g_iconst (w := (1 : Int32)) hX (dc_X0_tryRows 32 rfl) (by decide) ?_
        refine g_iadd hX (dc_X0_tryRows 33 rfl) ?_
        refine g_iload_n hX (dc_X0_tryRows 34 rfl) rfl 3 rfl ?_
        refine g_iload hX (dc_X0_tryRows 35 rfl) 4 rfl ?_
        refine g_iconst (w := (1 : Int32)) hX (dc_X0_tryRows 36 rfl) (by decide) ?_
        refine g_iadd hX (dc_X0_tryRows 37 rfl) ?_
        refine gV_WV (As := [.ref 23, .int (x2 + (1 : Int32)), .int x3, .int (x4 + (1 : Int32))]) (st := []) hX (dc_X0_tryRows 38 rfl) ml_X0_27 (hfr (x2 + (1 : Int32)) x3 (x4 + (1 : Int32)) (wI σ 53 (ix x2) (-1 : Int32))) (stS hΩ 52 rfl) rfl rfl ⟨by simp only [rmT]; omega, by simp only [rmT]; omega⟩ ⟨rfl, rfl⟩ ⟨Nat.zero_le _, Nat.zero_le _⟩ (Nat.le_of_ble_eq_true rfl) (fun r26 _ => ?_)
        refine g_iconst (w := (0 : Int32)) hX (dc_X0_tryRows 39 rfl) (by decide) ?_
        refine g_istore (L' := [(5, .int (0 : Int32)), (0, .ref 52), (1, .ref 23), (2, .int x2), (3, .int x3), (4, .int x4)]) hX (dc_X0_tryRows 40 rfl) (by decide) rfl ?_
        exact g_sub [1, 2, 3, 4, 5, 0] rfl (c_X0_tryRows_69 hX hO hΩ fr hfr FU (x2) (x3) (x4) ((0 : Int32)) r26)
      · exact g_sub [0, 4] rfl (c_X0_tryRows_24 hX hO hΩ fr hfr (x4) σ)
  · exact g_vret hX (dc_X0_tryRows 4 rfl) rfl (by decide) (by decide)
def f_X0_tryRows : Nat → Int32 → Int32 → Int32 → MS → Option MS
  | 0, _, _, _, _ => none
  | d + 1, x2, x3, x4, σ => b_X0_tryRows_0 (f_X0_tryRows d) x2 x3 x4 σ
theorem con_X0_tryRows {Ω : OM} (hO : OKO Ω) (hΩ : oSH Ω = SHX) : ∀ (d : Nat) (x2 x3 x4 : Int32) (σ : MS), Con Ω yX0_tryRows cX0_tryRows 7 none (rmT d) (emWV) [.ref 52, .ref 23, .int x2, .int x3, .int x4] σ (f_X0_tryRows d x2 x3 x4 σ)
  | 0, _, _, _, _ => fun _ _ h => by cases h
  | d + 1, x2, x3, x4, σ => con_of hO (by decide +kernel) (Nat.le_of_ble_eq_true rfl) rfl (fun X hX hn => c_X0_tryRows_0 hX hO hΩ (f_X0_tryRows d) (con_X0_tryRows hO hΩ d) x2 x3 x4 σ)
def it_X0_solve : List (Nat × Instr × Nat × Nat) := [(0, .aload_n 0, 1, 1), (1, .aload_n 1, 1, 2), (2, .getfield 18, 3, 5), (5, .iconst 1, 1, 6), (6, .iadd, 1, 7), (7, .putfield 24, 3, 10), (10, .aload_n 0, 1, 11), (11, .aload_n 1, 1, 12), (12, .iconst 0, 1, 13), (13, .iconst 0, 1, 14), (14, .iconst 0, 1, 15), (15, .invokevirtual 27, 3, 18), (18, .return_, 1, 19)]
theorem id_X0_solve : ∀ q ∈ it_X0_solve, decode cX0_solve q.1 = .ok (q.2.1, q.2.2.1) ∧ q.1 + q.2.2.1 = q.2.2.2 := by decide +kernel
theorem dc_X0_solve {pc : Nat} {i : Instr} {n pc' : Nat} (j : Nat) (h : it_X0_solve[j]? = some (pc, i, n, pc')) : Dc cX0_solve pc i n pc' := dc_of id_X0_solve j h
abbrev rm_X0_solve : Room := { frames := 11, cells := 0, slots := 0, locals := 1026 }
def b_X0_solve_0     (σ : MS) : Option (MS) := (f_X0_tryRows 8 (0 : Int32) (0 : Int32) (0 : Int32) (wI σ 52 2 ((sI σ 23 4) + (1 : Int32)))).bind (fun r2 => some (r2))
set_option maxHeartbeats 4000000 in
set_option maxRecDepth 20000 in
theorem c_X0_solve_0 {X : CX} {Ω : OM} (hX : CF X Ω RX0 cX0_solve 2 none rm_X0_solve) (hO : OKO Ω) (hΩ : oSH Ω = SHX)      (σ : MS)  : GE X Ω 2 0 0 (emWV) 0 0 0 [(0, .ref 52), (1, .ref 23)] [] σ (b_X0_solve_0  σ) := by
  unfold b_X0_solve_0
  refine g_aload_n hX (dc_X0_solve 0 rfl) rfl 0 rfl ?_
  refine g_aload_n hX (dc_X0_solve 1 rfl) rfl 1 rfl ?_
  refine g_getI hX (dc_X0_solve 2 rfl) fl_X0_18 (by decide) rfl (stS hΩ 23 rfl) ?_
  refine g_iconst (w := (1 : Int32)) hX (dc_X0_solve 3 rfl) (by decide) ?_
  refine g_iadd hX (dc_X0_solve 4 rfl) ?_
  refine g_putI (raw := false) hX (dc_X0_solve 5 rfl) fl_X0_24 (by decide) ⟨rfl, rfl⟩ ⟨rfl, rfl⟩ (stS hΩ 52 rfl) ?_
  refine g_aload_n hX (dc_X0_solve 6 rfl) rfl 0 rfl ?_
  refine g_aload_n hX (dc_X0_solve 7 rfl) rfl 1 rfl ?_
  refine g_iconst (w := (0 : Int32)) hX (dc_X0_solve 8 rfl) (by decide) ?_
  refine g_iconst (w := (0 : Int32)) hX (dc_X0_solve 9 rfl) (by decide) ?_
  refine g_iconst (w := (0 : Int32)) hX (dc_X0_solve 10 rfl) (by decide) ?_
  refine gV_WV (As := [.ref 23, .int (0 : Int32), .int (0 : Int32), .int (0 : Int32)]) (st := []) hX (dc_X0_solve 11 rfl) ml_X0_27 (con_X0_tryRows hO hΩ 8 (0 : Int32) (0 : Int32) (0 : Int32) (wI σ 52 2 ((sI σ 23 4) + (1 : Int32)))) (stS hΩ 52 rfl) rfl rfl ⟨by decide, by decide⟩ ⟨rfl, rfl⟩ ⟨Nat.zero_le _, Nat.zero_le _⟩ (Nat.le_of_ble_eq_true rfl) (fun r2 _ => ?_)
  exact g_vret hX (dc_X0_solve 12 rfl) rfl (by decide) (by decide)
def f_X0_solve  (σ : MS) : Option (MS) := b_X0_solve_0   σ
theorem con_X0_solve {Ω : OM} (hO : OKO Ω) (hΩ : oSH Ω = SHX)  (σ : MS)  : Con Ω yX0_solve cX0_solve 2 none rm_X0_solve (emWV) [.ref 52, .ref 23] σ (f_X0_solve  σ) :=
  con_of hO (by decide +kernel) (Nat.le_of_ble_eq_true rfl) rfl (fun X hX hn => c_X0_solve_0 hX hO hΩ    σ )
def it_X1_init : List (Nat × Instr × Nat × Nat) := [(0, .aload_n 0, 1, 1), (1, .invokespecial 3, 3, 4), (4, .aload_n 0, 1, 5), (5, .bipush 64, 2, 7), (7, .newarray .long, 2, 9), (9, .putfield 11, 3, 12), (12, .aload_n 0, 1, 13), (13, .iconst (-1), 1, 14), (14, .putfield 17, 3, 17), (17, .aload_n 0, 1, 18), (18, .aload_n 1, 1, 19), (19, .putfield 21, 3, 22), (22, .return_, 1, 23)]
theorem id_X1_init : ∀ q ∈ it_X1_init, decode cX1_init q.1 = .ok (q.2.1, q.2.2.1) ∧ q.1 + q.2.2.1 = q.2.2.2 := by decide +kernel
theorem dc_X1_init {pc : Nat} {i : Instr} {n pc' : Nat} (j : Nat) (h : it_X1_init[j]? = some (pc, i, n, pc')) : Dc cX1_init pc i n pc' := dc_of id_X1_init j h
abbrev rm_X1_init : Room := { frames := 1, cells := 1, slots := 64, locals := 20 }
def b_X1_init_0 (a0 : Nat) (a1 : Nat)    (σ : MS) : Option (MS) := chk (sN σ < 1000000) (@chk (finOK (wR (wI (wR (al σ 3 64) a0 0 (some (sN σ))) a0 3 (-1 : Int32)) a0 1 (some a1)) a0 1) (dec_finOK (wR (wI (wR (al σ 3 64) a0 0 (some (sN σ))) a0 3 (-1 : Int32)) a0 1 (some a1)) a0 1) _ (some (fin (wR (wI (wR (al σ 3 64) a0 0 (some (sN σ))) a0 3 (-1 : Int32)) a0 1 (some a1)) a0 1)))
set_option maxHeartbeats 4000000 in
set_option maxRecDepth 20000 in
theorem c_X1_init_0 {X : CX} {Ω : OM} (hX : CF X Ω RX1 cX1_init 2 none rm_X1_init) (hO : OKO Ω) (hal : oAl Ω) (hn : X.2.2.2.2.2.2.2.2.1.name = "<init>") (a0 : Nat) (a1 : Nat) (hs0 : (oSH Ω).length ≤ a0)    (σ : MS) (ha0 : tf Ω σ a0 (30 + 1, 0)) : GE X Ω 2 1 64 (emWV) 0 0 0 [(0, .ref a0), (1, .ref a1)] [] σ (b_X1_init_0 a0 a1 σ) := by
  unfold b_X1_init_0
  refine g_aload_n hX (dc_X1_init 0 rfl) rfl 0 rfl ?_
  refine g_objinit hX (dc_X1_init 1 rfl) mo_X1_3 wo_i wo_c (by decide) (by decide) (Nat.le_of_ble_eq_true rfl) ?_
  refine g_aload_n hX (dc_X1_init 2 rfl) rfl 0 rfl ?_
  refine g_bipush (w := (64 : Int32)) hX (dc_X1_init 3 rfl) (by decide) ?_
  refine g_chk (fun hl3 => ?_)
  refine g_newa_long (N := 64) hX hal hl3 (dc_X1_init 4 rfl) wa_long (by decide) (by decide) (by decide) (by decide) (by decide) ?_
  refine g_putN (raw := true) (r := (some (sN σ))) hX (dc_X1_init 5 rfl) fl_X1_11 (by decide) (Or.inr ⟨rfl, rfl⟩) (fun w => by cases w <;> exact ⟨rfl, rfl⟩) (tf_al ha0) (Or.inr ⟨hn, rfl, rfl⟩) ?_
  refine g_aload_n hX (dc_X1_init 6 rfl) rfl 0 rfl ?_
  refine g_iconst (w := (-1 : Int32)) hX (dc_X1_init 7 rfl) (by decide) ?_
  refine g_putI (raw := true) hX (dc_X1_init 8 rfl) fl_X1_17 (by decide) ⟨rfl, rfl⟩ ⟨rfl, rfl⟩ (tf_al ha0) ?_
  refine g_aload_n hX (dc_X1_init 9 rfl) rfl 0 rfl ?_
  refine g_aload_n hX (dc_X1_init 10 rfl) rfl 1 rfl ?_
  refine g_putN (raw := true) (r := (some a1)) hX (dc_X1_init 11 rfl) fl_X1_21 (by decide) (Or.inr ⟨rfl, rfl⟩) (fun w => by cases w <;> exact ⟨rfl, rfl⟩) (tf_al ha0) (Or.inr ⟨hn, rfl, rfl⟩) ?_
  refine g_chkd (fun hf4 => ?_)
  refine g_fin (tf_al ha0) (by decide) hf4 hs0 ?_
  exact g_vret hX (dc_X1_init 12 rfl) rfl (by decide) (by decide)
def f_X1_init (a0 : Nat) (a1 : Nat) (σ : MS) : Option (MS) := b_X1_init_0 a0 a1  σ
theorem con_X1_init {Ω : OM} (hO : OKO Ω) (hal : oAl Ω) (a0 : Nat) (a1 : Nat) (σ : MS) (ha0 : tf Ω σ a0 (30 + 1, 0)) (hs0 : (oSH Ω).length ≤ a0) : Con Ω yX1_init cX1_init 2 none rm_X1_init (emWV) [.ref a0, .ref a1] σ (f_X1_init a0 a1 σ) :=
  con_of hO (by decide +kernel) (Nat.le_of_ble_eq_true rfl) rfl (fun X hX hn => c_X1_init_0 hX hO hal hn a0 a1 hs0  σ ha0)
def it_X8_init : List (Nat × Instr × Nat × Nat) := [(0, .aload_n 0, 1, 1), (1, .invokespecial 3, 3, 4), (4, .aload_n 0, 1, 5), (5, .bipush 6, 2, 7), (7, .newarray .int, 2, 9), (9, .putfield 9, 3, 12), (12, .aload_n 0, 1, 13), (13, .bipush 6, 2, 15), (15, .newarray .int, 2, 17), (17, .putfield 15, 3, 20), (20, .aload_n 0, 1, 21), (21, .iconst 4, 1, 22), (22, .newarray .int, 2, 24), (24, .putfield 18, 3, 27), (27, .aload_n 0, 1, 28), (28, .getfield 9, 3, 31), (31, .iconst (-1), 1, 32), (32, .invokestatic 21, 3, 35), (35, .return_, 1, 36)]
theorem id_X8_init : ∀ q ∈ it_X8_init, decode cX8_init q.1 = .ok (q.2.1, q.2.2.1) ∧ q.1 + q.2.2.1 = q.2.2.2 := by decide +kernel
theorem dc_X8_init {pc : Nat} {i : Instr} {n pc' : Nat} (j : Nat) (h : it_X8_init[j]? = some (pc, i, n, pc')) : Dc cX8_init pc i n pc' := dc_of id_X8_init j h
abbrev rm_X8_init : Room := { frames := 1, cells := 3, slots := 16, locals := 23 }
def b_X8_init_0 (a0 : Nat)    (σ : MS) : Option (MS) := chk (sN σ < 1000000) (chk (sN σ + 1 < 1000000) (chk (sN σ + 2 < 1000000) ((onr (sR (wR (al (wR (al (wR (al σ 0 6) a0 0 (some (sN σ))) 0 6) a0 1 (some (sN σ + 1))) 0 4) a0 2 (some (sN σ + 2))) a0 0) none (fun b13 => @chk (tfd (wR (al (wR (al (wR (al σ 0 6) a0 0 (some (sN σ))) 0 6) a0 1 (some (sN σ + 1))) 0 4) a0 2 (some (sN σ + 2))) b13 (0, 6)) (dec_tfd (wR (al (wR (al (wR (al σ 0 6) a0 0 (some (sN σ))) 0 6) a0 1 (some (sN σ + 1))) 0 4) a0 2 (some (sN σ + 2))) b13 (0, 6)) _ ((f_J7_fill_53178 b13 6 (-1 : Int32) (wR (al (wR (al (wR (al σ 0 6) a0 0 (some (sN σ))) 0 6) a0 1 (some (sN σ + 1))) 0 4) a0 2 (some (sN σ + 2)))).bind (fun r16 => @chk (tfd r16 a0 (30 + 8, 0)) (dec_tfd r16 a0 (30 + 8, 0)) _ (@chk (finOK r16 a0 8) (dec_finOK r16 a0 8) _ (some (fin r16 a0 8))))))))))
set_option maxHeartbeats 4000000 in
set_option maxRecDepth 20000 in
theorem c_X8_init_0 {X : CX} {Ω : OM} (hX : CF X Ω RX8 cX8_init 1 none rm_X8_init) (hO : OKO Ω) (hal : oAl Ω) (hn : X.2.2.2.2.2.2.2.2.1.name = "<init>") (a0 : Nat) (hs0 : (oSH Ω).length ≤ a0)    (σ : MS) (ha0 : tf Ω σ a0 (30 + 8, 0)) : GE X Ω 1 3 16 (emWV) 0 0 0 [(0, .ref a0)] [] σ (b_X8_init_0 a0 σ) := by
  unfold b_X8_init_0
  refine g_aload_n hX (dc_X8_init 0 rfl) rfl 0 rfl ?_
  refine g_objinit hX (dc_X8_init 1 rfl) mo_X8_3 wo_i wo_c (by decide) (by decide) (Nat.le_of_ble_eq_true rfl) ?_
  refine g_aload_n hX (dc_X8_init 2 rfl) rfl 0 rfl ?_
  refine g_bipush (w := (6 : Int32)) hX (dc_X8_init 3 rfl) (by decide) ?_
  refine g_chk (fun hl10 => ?_)
  refine g_newa_int (N := 6) hX hal hl10 (dc_X8_init 4 rfl) wa_int (by decide) (by decide) (by decide) (by decide) (by decide) ?_
  refine g_putN (raw := true) (r := (some (sN σ))) hX (dc_X8_init 5 rfl) fl_X8_9 (by decide) (Or.inr ⟨rfl, rfl⟩) (fun w => by cases w <;> exact ⟨rfl, rfl⟩) (tf_al ha0) (Or.inr ⟨hn, rfl, rfl⟩) ?_
  refine g_aload_n hX (dc_X8_init 6 rfl) rfl 0 rfl ?_
  refine g_bipush (w := (6 : Int32)) hX (dc_X8_init 7 rfl) (by decide) ?_
  refine g_chk (fun hl11 => ?_)
  refine g_newa_int (N := 6) hX hal hl11 (dc_X8_init 8 rfl) wa_int (by decide) (by decide) (by decide) (by decide) (by decide) ?_
  refine g_putN (raw := true) (r := (some (sN σ + 1))) hX (dc_X8_init 9 rfl) fl_X8_15 (by decide) (Or.inr ⟨rfl, rfl⟩) (fun w => by cases w <;> exact ⟨rfl, rfl⟩) (tf_al (tf_al ha0)) (Or.inr ⟨hn, rfl, rfl⟩) ?_
  refine g_aload_n hX (dc_X8_init 10 rfl) rfl 0 rfl ?_
  refine g_iconst (w := (4 : Int32)) hX (dc_X8_init 11 rfl) (by decide) ?_
  refine g_chk (fun hl12 => ?_)
  refine g_newa_int (N := 4) hX hal hl12 (dc_X8_init 12 rfl) wa_int (by decide) (by decide) (by decide) (by decide) (by decide) ?_
  refine g_putN (raw := true) (r := (some (sN σ + 2))) hX (dc_X8_init 13 rfl) fl_X8_18 (by decide) (Or.inr ⟨rfl, rfl⟩) (fun w => by cases w <;> exact ⟨rfl, rfl⟩) (tf_al (tf_al (tf_al ha0))) (Or.inr ⟨hn, rfl, rfl⟩) ?_
  refine g_aload_n hX (dc_X8_init 14 rfl) rfl 0 rfl ?_
  refine g_getN (raw := true) hX (dc_X8_init 15 rfl) fl_X8_9 (by decide) (Or.inr ⟨rfl, rfl⟩) (tf_al (tf_al (tf_al ha0))) (fun _ => ?_) (fun b13 hb14 => ?_)
  · exact g_none
  · refine g_chkd (fun ho15 => ?_)
    refine g_iconst (w := (-1 : Int32)) hX (dc_X8_init 16 rfl) (by decide) ?_
    refine gS_WV (As := [.ref b13, .int (-1 : Int32)]) (st := []) hX (dc_X8_init 17 rfl) ml_X8_21 (con_J7_fill_53178 hO b13 6 (-1 : Int32) (wR (al (wR (al (wR (al σ 0 6) a0 0 (some (sN σ))) 0 6) a0 1 (some (sN σ + 1))) 0 4) a0 2 (some (sN σ + 2))) ho15.t) rfl rfl ⟨by decide, by decide⟩ ⟨rfl, rfl⟩ ⟨by decide, by decide⟩ (Nat.le_of_ble_eq_true rfl) (fun r16 _ => ?_)
    refine g_chkd (fun ht18 => ?_)
    refine g_chkd (fun hf17 => ?_)
    refine g_fin ht18.t (by decide) hf17 hs0 ?_
    exact g_vret hX (dc_X8_init 18 rfl) rfl (by decide) (by decide)
def f_X8_init (a0 : Nat) (σ : MS) : Option (MS) := b_X8_init_0 a0  σ
theorem con_X8_init {Ω : OM} (hO : OKO Ω) (hal : oAl Ω) (a0 : Nat) (σ : MS) (ha0 : tf Ω σ a0 (30 + 8, 0)) (hs0 : (oSH Ω).length ≤ a0) : Con Ω yX8_init cX8_init 1 none rm_X8_init (emWV) [.ref a0] σ (f_X8_init a0 σ) :=
  con_of hO (by decide +kernel) (Nat.le_of_ble_eq_true rfl) rfl (fun X hX hn => c_X8_init_0 hX hO hal hn a0 hs0  σ ha0)
def it_X3_init : List (Nat × Instr × Nat × Nat) := [(0, .aload_n 0, 1, 1), (1, .invokespecial 3, 3, 4), (4, .aload_n 0, 1, 5), (5, .iconst 5, 1, 6), (6, .newarray .int, 2, 8), (8, .putfield 9, 3, 11), (11, .aload_n 0, 1, 12), (12, .iconst 5, 1, 13), (13, .newarray .int, 2, 15), (15, .putfield 15, 3, 18), (18, .aload_n 0, 1, 19), (19, .iconst 4, 1, 20), (20, .newarray .int, 2, 22), (22, .putfield 18, 3, 25), (25, .aload_n 0, 1, 26), (26, .iconst 4, 1, 27), (27, .newarray .int, 2, 29), (29, .putfield 21, 3, 32), (32, .aload_n 0, 1, 33), (33, .iconst 4, 1, 34), (34, .newarray .int, 2, 36), (36, .putfield 24, 3, 39), (39, .aload_n 0, 1, 40), (40, .bipush 6, 2, 42), (42, .newarray .int, 2, 44), (44, .putfield 27, 3, 47), (47, .aload_n 0, 1, 48), (48, .bipush 6, 2, 50), (50, .newarray .int, 2, 52), (52, .putfield 30, 3, 55), (55, .aload_n 0, 1, 56), (56, .new 33, 3, 59), (59, .dup, 1, 60), (60, .invokespecial 35, 3, 63), (63, .putfield 36, 3, 66), (66, .return_, 1, 67)]
theorem id_X3_init : ∀ q ∈ it_X3_init, decode cX3_init q.1 = .ok (q.2.1, q.2.2.1) ∧ q.1 + q.2.2.1 = q.2.2.2 := by decide +kernel
theorem dc_X3_init {pc : Nat} {i : Instr} {n pc' : Nat} (j : Nat) (h : it_X3_init[j]? = some (pc, i, n, pc')) : Dc cX3_init pc i n pc' := dc_of id_X3_init j h
abbrev rm_X3_init : Room := { frames := 2, cells := 11, slots := 56, locals := 43 }
def b_X3_init_39 (a0 : Nat)    (σ : MS) : Option (MS) := chk (sN σ < 1000000) (chk (sN σ + 1 < 1000000) (chk (sN σ + 2 < 1000000) ((f_X8_init (sN σ + 2) (al (wR (al (wR (al σ 0 6) a0 10 (some (sN σ))) 0 6) a0 11 (some (sN σ + 1))) (30 + 8) 0)).bind (fun r17 => @chk (tfd r17 a0 (30 + 3, 0)) (dec_tfd r17 a0 (30 + 3, 0)) _ (@chk (finOK (wR r17 a0 12 (some (sN σ + 2))) a0 3) (dec_finOK (wR r17 a0 12 (some (sN σ + 2))) a0 3) _ (some (fin (wR r17 a0 12 (some (sN σ + 2))) a0 3)))))))
set_option maxHeartbeats 4000000 in
set_option maxRecDepth 20000 in
theorem c_X3_init_39 {X : CX} {Ω : OM} (hX : CF X Ω RX3 cX3_init 1 none rm_X3_init) (hO : OKO Ω) (hal : oAl Ω) (hn : X.2.2.2.2.2.2.2.2.1.name = "<init>") (a0 : Nat) (hs0 : (oSH Ω).length ≤ a0)    (σ : MS) (ha0 : tf Ω σ a0 (30 + 3, 0)) : GE X Ω 1 11 56 (emWV) 5 22 39 [(0, .ref a0)] [] σ (b_X3_init_39 a0 σ) := by
  unfold b_X3_init_39
  refine g_aload_n hX (dc_X3_init 22 rfl) rfl 0 rfl ?_
  refine g_bipush (w := (6 : Int32)) hX (dc_X3_init 23 rfl) (by decide) ?_
  refine g_chk (fun hl13 => ?_)
  refine g_newa_int (N := 6) hX hal hl13 (dc_X3_init 24 rfl) wa_int (by decide) (by decide) (by decide) (by decide) (by decide) ?_
  refine g_putN (raw := true) (r := (some (sN σ))) hX (dc_X3_init 25 rfl) fl_X3_27 (by decide) (Or.inr ⟨rfl, rfl⟩) (fun w => by cases w <;> exact ⟨rfl, rfl⟩) (tf_al ha0) (Or.inr ⟨hn, rfl, rfl⟩) ?_
  refine g_aload_n hX (dc_X3_init 26 rfl) rfl 0 rfl ?_
  refine g_bipush (w := (6 : Int32)) hX (dc_X3_init 27 rfl) (by decide) ?_
  refine g_chk (fun hl14 => ?_)
  refine g_newa_int (N := 6) hX hal hl14 (dc_X3_init 28 rfl) wa_int (by decide) (by decide) (by decide) (by decide) (by decide) ?_
  refine g_putN (raw := true) (r := (some (sN σ + 1))) hX (dc_X3_init 29 rfl) fl_X3_30 (by decide) (Or.inr ⟨rfl, rfl⟩) (fun w => by cases w <;> exact ⟨rfl, rfl⟩) (tf_al (tf_al ha0)) (Or.inr ⟨hn, rfl, rfl⟩) ?_
  refine g_aload_n hX (dc_X3_init 30 rfl) rfl 0 rfl ?_
  refine g_chk (fun hl15 => ?_)
  refine g_new (ci := 8) hX hal hl15 (dc_X3_init 31 rfl) wl_X3_33 wb_X8 wn_X8 (by decide) (by decide) (by decide) (fun hq16 => ?_)
  refine g_dup hX (dc_X3_init 32 rfl) rfl ?_
  refine gI_WV (As := []) (st := [.ref (sN σ + 2), .ref a0]) hX (dc_X3_init 33 rfl) ml_X3_35 wi_X8_init rfl (con_X8_init hO hal (sN σ + 2) (al (wR (al (wR (al σ 0 6) a0 10 (some (sN σ))) 0 6) a0 11 (some (sN σ + 1))) (30 + 8) 0) tf_new hq16) rfl rfl ⟨by decide, by decide⟩ ⟨by decide, by decide⟩ (Nat.le_of_ble_eq_true rfl) (fun r17 _ => ?_)
  refine g_chkd (fun ht18 => ?_)
  refine g_putN (raw := true) (r := (some (sN σ + 2))) hX (dc_X3_init 34 rfl) fl_X3_36 (by decide) (Or.inr ⟨rfl, rfl⟩) (fun w => by cases w <;> exact ⟨rfl, rfl⟩) ht18.t (Or.inr ⟨hn, rfl, rfl⟩) ?_
  refine g_chkd (fun hf19 => ?_)
  refine g_fin ht18.t (by decide) hf19 hs0 ?_
  exact g_vret hX (dc_X3_init 35 rfl) rfl (by decide) (by decide)
def b_X3_init_0 (a0 : Nat)    (σ : MS) : Option (MS) := chk (sN σ < 1000000) (chk (sN σ + 1 < 1000000) (chk (sN σ + 2 < 1000000) (chk (sN σ + 3 < 1000000) (chk (sN σ + 4 < 1000000) ((b_X3_init_39 a0 (wR (al (wR (al (wR (al (wR (al (wR (al σ 0 5) a0 5 (some (sN σ))) 0 5) a0 6 (some (sN σ + 1))) 0 4) a0 7 (some (sN σ + 2))) 0 4) a0 8 (some (sN σ + 3))) 0 4) a0 9 (some (sN σ + 4)))))))))
set_option maxHeartbeats 4000000 in
set_option maxRecDepth 20000 in
theorem c_X3_init_0 {X : CX} {Ω : OM} (hX : CF X Ω RX3 cX3_init 1 none rm_X3_init) (hO : OKO Ω) (hal : oAl Ω) (hn : X.2.2.2.2.2.2.2.2.1.name = "<init>") (a0 : Nat) (hs0 : (oSH Ω).length ≤ a0)    (σ : MS) (ha0 : tf Ω σ a0 (30 + 3, 0)) : GE X Ω 1 11 56 (emWV) 0 0 0 [(0, .ref a0)] [] σ (b_X3_init_0 a0 σ) := by
  unfold b_X3_init_0
  refine g_aload_n hX (dc_X3_init 0 rfl) rfl 0 rfl ?_
  refine g_objinit hX (dc_X3_init 1 rfl) mo_X3_3 wo_i wo_c (by decide) (by decide) (Nat.le_of_ble_eq_true rfl) ?_
  refine g_aload_n hX (dc_X3_init 2 rfl) rfl 0 rfl ?_
  refine g_iconst (w := (5 : Int32)) hX (dc_X3_init 3 rfl) (by decide) ?_
  refine g_chk (fun hl20 => ?_)
  refine g_newa_int (N := 5) hX hal hl20 (dc_X3_init 4 rfl) wa_int (by decide) (by decide) (by decide) (by decide) (by decide) ?_
  refine g_putN (raw := true) (r := (some (sN σ))) hX (dc_X3_init 5 rfl) fl_X3_9 (by decide) (Or.inr ⟨rfl, rfl⟩) (fun w => by cases w <;> exact ⟨rfl, rfl⟩) (tf_al ha0) (Or.inr ⟨hn, rfl, rfl⟩) ?_
  refine g_aload_n hX (dc_X3_init 6 rfl) rfl 0 rfl ?_
  refine g_iconst (w := (5 : Int32)) hX (dc_X3_init 7 rfl) (by decide) ?_
  refine g_chk (fun hl21 => ?_)
  refine g_newa_int (N := 5) hX hal hl21 (dc_X3_init 8 rfl) wa_int (by decide) (by decide) (by decide) (by decide) (by decide) ?_
  refine g_putN (raw := true) (r := (some (sN σ + 1))) hX (dc_X3_init 9 rfl) fl_X3_15 (by decide) (Or.inr ⟨rfl, rfl⟩) (fun w => by cases w <;> exact ⟨rfl, rfl⟩) (tf_al (tf_al ha0)) (Or.inr ⟨hn, rfl, rfl⟩) ?_
  refine g_aload_n hX (dc_X3_init 10 rfl) rfl 0 rfl ?_
  refine g_iconst (w := (4 : Int32)) hX (dc_X3_init 11 rfl) (by decide) ?_
  refine g_chk (fun hl22 => ?_)
  refine g_newa_int (N := 4) hX hal hl22 (dc_X3_init 12 rfl) wa_int (by decide) (by decide) (by decide) (by decide) (by decide) ?_
  refine g_putN (raw := true) (r := (some (sN σ + 2))) hX (dc_X3_init 13 rfl) fl_X3_18 (by decide) (Or.inr ⟨rfl, rfl⟩) (fun w => by cases w <;> exact ⟨rfl, rfl⟩) (tf_al (tf_al (tf_al ha0))) (Or.inr ⟨hn, rfl, rfl⟩) ?_
  refine g_aload_n hX (dc_X3_init 14 rfl) rfl 0 rfl ?_
  refine g_iconst (w := (4 : Int32)) hX (dc_X3_init 15 rfl) (by decide) ?_
  refine g_chk (fun hl23 => ?_)
  refine g_newa_int (N := 4) hX hal hl23 (dc_X3_init 16 rfl) wa_int (by decide) (by decide) (by decide) (by decide) (by decide) ?_
  refine g_putN (raw := true) (r := (some (sN σ + 3))) hX (dc_X3_init 17 rfl) fl_X3_21 (by decide) (Or.inr ⟨rfl, rfl⟩) (fun w => by cases w <;> exact ⟨rfl, rfl⟩) (tf_al (tf_al (tf_al (tf_al ha0)))) (Or.inr ⟨hn, rfl, rfl⟩) ?_
  refine g_aload_n hX (dc_X3_init 18 rfl) rfl 0 rfl ?_
  refine g_iconst (w := (4 : Int32)) hX (dc_X3_init 19 rfl) (by decide) ?_
  refine g_chk (fun hl24 => ?_)
  refine g_newa_int (N := 4) hX hal hl24 (dc_X3_init 20 rfl) wa_int (by decide) (by decide) (by decide) (by decide) (by decide) ?_
  refine g_putN (raw := true) (r := (some (sN σ + 4))) hX (dc_X3_init 21 rfl) fl_X3_24 (by decide) (Or.inr ⟨rfl, rfl⟩) (fun w => by cases w <;> exact ⟨rfl, rfl⟩) (tf_al (tf_al (tf_al (tf_al (tf_al ha0))))) (Or.inr ⟨hn, rfl, rfl⟩) ?_
  refine g_widen (u' := 5) (v' := 22) (by decide) (by decide) ?_
  exact g_sub [0] rfl (c_X3_init_39 hX hO hal hn a0 hs0 (wR (al (wR (al (wR (al (wR (al (wR (al σ 0 5) a0 5 (some (sN σ))) 0 5) a0 6 (some (sN σ + 1))) 0 4) a0 7 (some (sN σ + 2))) 0 4) a0 8 (some (sN σ + 3))) 0 4) a0 9 (some (sN σ + 4))) (tf_al (tf_al (tf_al (tf_al (tf_al ha0))))))
def f_X3_init (a0 : Nat) (σ : MS) : Option (MS) := b_X3_init_0 a0  σ
theorem con_X3_init {Ω : OM} (hO : OKO Ω) (hal : oAl Ω) (a0 : Nat) (σ : MS) (ha0 : tf Ω σ a0 (30 + 3, 0)) (hs0 : (oSH Ω).length ≤ a0) : Con Ω yX3_init cX3_init 1 none rm_X3_init (emWV) [.ref a0] σ (f_X3_init a0 σ) :=
  con_of hO (by decide +kernel) (Nat.le_of_ble_eq_true rfl) rfl (fun X hX hn => c_X3_init_0 hX hO hal hn a0 hs0  σ ha0)
def it_X4_init : List (Nat × Instr × Nat × Nat) := [(0, .aload_n 0, 1, 1), (1, .invokespecial 3, 3, 4), (4, .aload_n 0, 1, 5), (5, .aload_n 1, 1, 6), (6, .putfield 9, 3, 9), (9, .return_, 1, 10)]
theorem id_X4_init : ∀ q ∈ it_X4_init, decode cX4_init q.1 = .ok (q.2.1, q.2.2.1) ∧ q.1 + q.2.2.1 = q.2.2.2 := by decide +kernel
theorem dc_X4_init {pc : Nat} {i : Instr} {n pc' : Nat} (j : Nat) (h : it_X4_init[j]? = some (pc, i, n, pc')) : Dc cX4_init pc i n pc' := dc_of id_X4_init j h
abbrev rm_X4_init : Room := { frames := 1, cells := 0, slots := 0, locals := 20 }
def b_X4_init_0 (a0 : Nat) (a1 : Nat)    (σ : MS) : Option (MS) := @chk (finOK (wR σ a0 0 (some a1)) a0 4) (dec_finOK (wR σ a0 0 (some a1)) a0 4) _ (some (fin (wR σ a0 0 (some a1)) a0 4))
set_option maxHeartbeats 4000000 in
set_option maxRecDepth 20000 in
theorem c_X4_init_0 {X : CX} {Ω : OM} (hX : CF X Ω RX4 cX4_init 2 none rm_X4_init) (hO : OKO Ω) (hn : X.2.2.2.2.2.2.2.2.1.name = "<init>") (a0 : Nat) (a1 : Nat) (hs0 : (oSH Ω).length ≤ a0)    (σ : MS) (ha0 : tf Ω σ a0 (30 + 4, 0)) : GE X Ω 2 0 0 (emWV) 0 0 0 [(0, .ref a0), (1, .ref a1)] [] σ (b_X4_init_0 a0 a1 σ) := by
  unfold b_X4_init_0
  refine g_aload_n hX (dc_X4_init 0 rfl) rfl 0 rfl ?_
  refine g_objinit hX (dc_X4_init 1 rfl) mo_X4_3 wo_i wo_c (by decide) (by decide) (Nat.le_of_ble_eq_true rfl) ?_
  refine g_aload_n hX (dc_X4_init 2 rfl) rfl 0 rfl ?_
  refine g_aload_n hX (dc_X4_init 3 rfl) rfl 1 rfl ?_
  refine g_putN (raw := true) (r := (some a1)) hX (dc_X4_init 4 rfl) fl_X4_9 (by decide) (Or.inr ⟨rfl, rfl⟩) (fun w => by cases w <;> exact ⟨rfl, rfl⟩) ha0 (Or.inr ⟨hn, rfl, rfl⟩) ?_
  refine g_chkd (fun hf2 => ?_)
  refine g_fin ha0 (by decide) hf2 hs0 ?_
  exact g_vret hX (dc_X4_init 5 rfl) rfl (by decide) (by decide)
def f_X4_init (a0 : Nat) (a1 : Nat) (σ : MS) : Option (MS) := b_X4_init_0 a0 a1  σ
theorem con_X4_init {Ω : OM} (hO : OKO Ω) (a0 : Nat) (a1 : Nat) (σ : MS) (ha0 : tf Ω σ a0 (30 + 4, 0)) (hs0 : (oSH Ω).length ≤ a0) : Con Ω yX4_init cX4_init 2 none rm_X4_init (emWV) [.ref a0, .ref a1] σ (f_X4_init a0 a1 σ) :=
  con_of hO (by decide +kernel) (Nat.le_of_ble_eq_true rfl) rfl (fun X hX hn => c_X4_init_0 hX hO hn a0 a1 hs0  σ ha0)
def it_X2_init : List (Nat × Instr × Nat × Nat) := [(0, .aload_n 0, 1, 1), (1, .invokespecial 3, 3, 4), (4, .aload_n 0, 1, 5), (5, .new 9, 3, 8), (8, .dup, 1, 9), (9, .invokespecial 11, 3, 12), (12, .putfield 12, 3, 15), (15, .aload_n 0, 1, 16), (16, .new 18, 3, 19), (19, .dup, 1, 20), (20, .aload_n 1, 1, 21), (21, .invokespecial 20, 3, 24), (24, .putfield 23, 3, 27), (27, .return_, 1, 28)]
theorem id_X2_init : ∀ q ∈ it_X2_init, decode cX2_init q.1 = .ok (q.2.1, q.2.2.1) ∧ q.1 + q.2.2.1 = q.2.2.2 := by decide +kernel
theorem dc_X2_init {pc : Nat} {i : Instr} {n pc' : Nat} (j : Nat) (h : it_X2_init[j]? = some (pc, i, n, pc')) : Dc cX2_init pc i n pc' := dc_of id_X2_init j h
abbrev rm_X2_init : Room := { frames := 3, cells := 13, slots := 76, locals := 63 }
def b_X2_init_0 (a0 : Nat) (a1 : Nat)    (σ : MS) : Option (MS) := chk (sN σ < 1000000) ((f_X3_init (sN σ) (al σ (30 + 3) 0)).bind (fun r12 => @chk (tfd r12 a0 (30 + 2, 0)) (dec_tfd r12 a0 (30 + 2, 0)) _ (chk (sN r12 < 1000000) ((f_X4_init (sN r12) a1 (al (wR r12 a0 1 (some (sN σ))) (30 + 4) 0)).bind (fun r16 => @chk (tfd r16 a0 (30 + 2, 0)) (dec_tfd r16 a0 (30 + 2, 0)) _ (@chk (finOK (wR r16 a0 0 (some (sN r12))) a0 2) (dec_finOK (wR r16 a0 0 (some (sN r12))) a0 2) _ (some (fin (wR r16 a0 0 (some (sN r12))) a0 2))))))))
set_option maxHeartbeats 4000000 in
set_option maxRecDepth 20000 in
theorem c_X2_init_0 {X : CX} {Ω : OM} (hX : CF X Ω RX2 cX2_init 2 none rm_X2_init) (hO : OKO Ω) (hal : oAl Ω) (hn : X.2.2.2.2.2.2.2.2.1.name = "<init>") (a0 : Nat) (a1 : Nat) (hs0 : (oSH Ω).length ≤ a0)    (σ : MS) (ha0 : tf Ω σ a0 (30 + 2, 0)) : GE X Ω 2 13 76 (emWV) 0 0 0 [(0, .ref a0), (1, .ref a1)] [] σ (b_X2_init_0 a0 a1 σ) := by
  unfold b_X2_init_0
  refine g_aload_n hX (dc_X2_init 0 rfl) rfl 0 rfl ?_
  refine g_objinit hX (dc_X2_init 1 rfl) mo_X2_3 wo_i wo_c (by decide) (by decide) (Nat.le_of_ble_eq_true rfl) ?_
  refine g_aload_n hX (dc_X2_init 2 rfl) rfl 0 rfl ?_
  refine g_chk (fun hl10 => ?_)
  refine g_new (ci := 3) hX hal hl10 (dc_X2_init 3 rfl) wl_X2_9 wb_X3 wn_X3 (by decide) (by decide) (by decide) (fun hq11 => ?_)
  refine g_dup hX (dc_X2_init 4 rfl) rfl ?_
  refine gN_WV (As := []) (st := [.ref (sN σ), .ref a0]) hX (dc_X2_init 5 rfl) (by decide +kernel : Cond.methodLinkNest RX2 11 yX3_init "StampDuchy" ∈ nestL) ⟨wn_X3, wc_X3_init, by decide, by decide, by decide +kernel⟩ wi_X3_init rfl (con_X3_init hO hal (sN σ) (al σ (30 + 3) 0) tf_new hq11) rfl rfl ⟨by decide, by decide⟩ ⟨by decide, by decide⟩ (Nat.le_of_ble_eq_true rfl) (fun r12 _ => ?_)
  refine g_chkd (fun ht13 => ?_)
  refine g_putN (raw := true) (r := (some (sN σ))) hX (dc_X2_init 6 rfl) fl_X2_12 (by decide) (Or.inr ⟨rfl, rfl⟩) (fun w => by cases w <;> exact ⟨rfl, rfl⟩) ht13.t (Or.inr ⟨hn, rfl, rfl⟩) ?_
  refine g_aload_n hX (dc_X2_init 7 rfl) rfl 0 rfl ?_
  refine g_chk (fun hl14 => ?_)
  refine g_new (ci := 4) hX hal hl14 (dc_X2_init 8 rfl) wl_X2_18 wb_X4 wn_X4 (by decide) (by decide) (by decide) (fun hq15 => ?_)
  refine g_dup hX (dc_X2_init 9 rfl) rfl ?_
  refine g_aload_n hX (dc_X2_init 10 rfl) rfl 1 rfl ?_
  refine gI_WV (As := [.ref a1]) (st := [.ref (sN r12), .ref a0]) hX (dc_X2_init 11 rfl) ml_X2_20 wi_X4_init rfl (con_X4_init hO (sN r12) a1 (al (wR r12 a0 1 (some (sN σ))) (30 + 4) 0) tf_new hq15) rfl rfl ⟨by decide, by decide⟩ ⟨by decide, by decide⟩ (Nat.le_of_ble_eq_true rfl) (fun r16 _ => ?_)
  refine g_chkd (fun ht17 => ?_)
  refine g_putN (raw := true) (r := (some (sN r12))) hX (dc_X2_init 12 rfl) fl_X2_23 (by decide) (Or.inr ⟨rfl, rfl⟩) (fun w => by cases w <;> exact ⟨rfl, rfl⟩) ht17.t (Or.inr ⟨hn, rfl, rfl⟩) ?_
  refine g_chkd (fun hf18 => ?_)
  refine g_fin ht17.t (by decide) hf18 hs0 ?_
  exact g_vret hX (dc_X2_init 13 rfl) rfl (by decide) (by decide)
def f_X2_init (a0 : Nat) (a1 : Nat) (σ : MS) : Option (MS) := b_X2_init_0 a0 a1  σ
theorem con_X2_init {Ω : OM} (hO : OKO Ω) (hal : oAl Ω) (a0 : Nat) (a1 : Nat) (σ : MS) (ha0 : tf Ω σ a0 (30 + 2, 0)) (hs0 : (oSH Ω).length ≤ a0) : Con Ω yX2_init cX2_init 2 none rm_X2_init (emWV) [.ref a0, .ref a1] σ (f_X2_init a0 a1 σ) :=
  con_of hO (by decide +kernel) (Nat.le_of_ble_eq_true rfl) rfl (fun X hX hn => c_X2_init_0 hX hO hal hn a0 a1 hs0  σ ha0)
def it_X5_init : List (Nat × Instr × Nat × Nat) := [(0, .aload_n 0, 1, 1), (1, .invokespecial 3, 3, 4), (4, .aload_n 0, 1, 5), (5, .sipush 192, 3, 8), (8, .newarray .int, 2, 10), (10, .putfield 9, 3, 13), (13, .return_, 1, 14)]
theorem id_X5_init : ∀ q ∈ it_X5_init, decode cX5_init q.1 = .ok (q.2.1, q.2.2.1) ∧ q.1 + q.2.2.1 = q.2.2.2 := by decide +kernel
theorem dc_X5_init {pc : Nat} {i : Instr} {n pc' : Nat} (j : Nat) (h : it_X5_init[j]? = some (pc, i, n, pc')) : Dc cX5_init pc i n pc' := dc_of id_X5_init j h
abbrev rm_X5_init : Room := { frames := 1, cells := 1, slots := 192, locals := 20 }
def b_X5_init_0 (a0 : Nat)    (σ : MS) : Option (MS) := chk (sN σ < 1000000) (@chk (finOK (wR (al σ 0 192) a0 0 (some (sN σ))) a0 5) (dec_finOK (wR (al σ 0 192) a0 0 (some (sN σ))) a0 5) _ (some (fin (wR (al σ 0 192) a0 0 (some (sN σ))) a0 5)))
set_option maxHeartbeats 4000000 in
set_option maxRecDepth 20000 in
theorem c_X5_init_0 {X : CX} {Ω : OM} (hX : CF X Ω RX5 cX5_init 1 none rm_X5_init) (hO : OKO Ω) (hal : oAl Ω) (hn : X.2.2.2.2.2.2.2.2.1.name = "<init>") (a0 : Nat) (hs0 : (oSH Ω).length ≤ a0)    (σ : MS) (ha0 : tf Ω σ a0 (30 + 5, 0)) : GE X Ω 1 1 192 (emWV) 0 0 0 [(0, .ref a0)] [] σ (b_X5_init_0 a0 σ) := by
  unfold b_X5_init_0
  refine g_aload_n hX (dc_X5_init 0 rfl) rfl 0 rfl ?_
  refine g_objinit hX (dc_X5_init 1 rfl) mo_X5_3 wo_i wo_c (by decide) (by decide) (Nat.le_of_ble_eq_true rfl) ?_
  refine g_aload_n hX (dc_X5_init 2 rfl) rfl 0 rfl ?_
  refine g_sipush (w := (192 : Int32)) hX (dc_X5_init 3 rfl) (by decide) ?_
  refine g_chk (fun hl3 => ?_)
  refine g_newa_int (N := 192) hX hal hl3 (dc_X5_init 4 rfl) wa_int (by decide) (by decide) (by decide) (by decide) (by decide) ?_
  refine g_putN (raw := true) (r := (some (sN σ))) hX (dc_X5_init 5 rfl) fl_X5_9 (by decide) (Or.inr ⟨rfl, rfl⟩) (fun w => by cases w <;> exact ⟨rfl, rfl⟩) (tf_al ha0) (Or.inr ⟨hn, rfl, rfl⟩) ?_
  refine g_chkd (fun hf4 => ?_)
  refine g_fin (tf_al ha0) (by decide) hf4 hs0 ?_
  exact g_vret hX (dc_X5_init 6 rfl) rfl (by decide) (by decide)
def f_X5_init (a0 : Nat) (σ : MS) : Option (MS) := b_X5_init_0 a0  σ
theorem con_X5_init {Ω : OM} (hO : OKO Ω) (hal : oAl Ω) (a0 : Nat) (σ : MS) (ha0 : tf Ω σ a0 (30 + 5, 0)) (hs0 : (oSH Ω).length ≤ a0) : Con Ω yX5_init cX5_init 1 none rm_X5_init (emWV) [.ref a0] σ (f_X5_init a0 σ) :=
  con_of hO (by decide +kernel) (Nat.le_of_ble_eq_true rfl) rfl (fun X hX hn => c_X5_init_0 hX hO hal hn a0 hs0  σ ha0)
def it_J7_copyOf_59c91 : List (Nat × Instr × Nat × Nat) := [(0, .iload_n 1, 1, 1), (1, .aload_n 0, 1, 2), (2, .arraylength, 1, 3), (3, .if_icmp .ne 11, 3, 6), (6, .aload_n 0, 1, 7), (7, .invokevirtual 316, 3, 10), (10, .checkcast 317, 3, 13), (13, .areturn, 1, 14), (14, .iload_n 1, 1, 15), (15, .newarray .int, 2, 17), (17, .astore_n 2, 1, 18), (18, .aload_n 0, 1, 19), (19, .iconst 0, 1, 20), (20, .aload_n 2, 1, 21), (21, .iconst 0, 1, 22), (22, .aload_n 0, 1, 23), (23, .arraylength, 1, 24), (24, .iload_n 1, 1, 25), (25, .invokestatic 304, 3, 28), (28, .invokestatic 150, 3, 31), (31, .aload_n 2, 1, 32), (32, .areturn, 1, 33)]
theorem id_J7_copyOf_59c91 : ∀ q ∈ it_J7_copyOf_59c91, decode cJ7_copyOf_59c91 q.1 = .ok (q.2.1, q.2.2.1) ∧ q.1 + q.2.2.1 = q.2.2.2 := by decide +kernel
theorem dc_J7_copyOf_59c91 {pc : Nat} {i : Instr} {n pc' : Nat} (j : Nat) (h : it_J7_copyOf_59c91[j]? = some (pc, i, n, pc')) : Dc cJ7_copyOf_59c91 pc i n pc' := dc_of id_J7_copyOf_59c91 j h
abbrev rm_J7_copyOf_59c91 : Room := { frames := 1, cells := 1, slots := 401, locals := 60 }
def b_J7_copyOf_59c91_0 (a0 : Nat) (n0 : Nat)  (x1 : Int32)  (σ : MS) : Option (Nat × MS) := (if x1 = (Int32.ofNat n0) then none else chk (¬ x1 < 0 ∧ ix x1 ≤ 401) (chk (sN σ < 1000000) ((f_J9_min_7cf53 (Int32.ofNat n0) x1).bind (fun r9 => chk (¬ (0 : Int32) < 0 ∧ ¬ (0 : Int32) < 0 ∧ ¬ r9 < 0 ∧ ix (0 : Int32) + ix r9 ≤ n0 ∧ ix (0 : Int32) + ix r9 ≤ (ix x1)) (some ((sN σ), (wW (al σ 0 (ix x1)) (sN σ) (va_cpy (sI (al σ 0 (ix x1)) a0) (sI (al σ 0 (ix x1)) (sN σ)) (ix (0 : Int32)) (ix (0 : Int32)) (ix r9)))))))))
set_option maxHeartbeats 4000000 in
set_option maxRecDepth 20000 in
theorem c_J7_copyOf_59c91_0 {X : CX} {Ω : OM} (hX : CF X Ω RJ7 cJ7_copyOf_59c91 3 (some (.array .int)) rm_J7_copyOf_59c91) (hO : OKO Ω) (hal : oAl Ω) (hΩ : oSH Ω = SHX) (a0 : Nat) (n0 : Nat) (ha0 : (oSH Ω)[a0]? = some (0, n0))  (x1 : Int32)  (σ : MS)  : GE X Ω 3 1 401 (emWR) 0 0 0 [(0, .ref a0), (1, .int x1)] [] σ (b_J7_copyOf_59c91_0 a0 n0 x1 σ) := by
  unfold b_J7_copyOf_59c91_0
  refine g_iload_n hX (dc_J7_copyOf_59c91 0 rfl) rfl 1 rfl ?_
  refine g_aload_n hX (dc_J7_copyOf_59c91 1 rfl) rfl 0 rfl ?_
  refine g_alen (w := (Int32.ofNat n0)) hX (dc_J7_copyOf_59c91 2 rfl) (Or.inl ha0) (by decide) rfl ?_
  refine g_icmp_ne (tgt := 14) hX (dc_J7_copyOf_59c91 3 rfl) (by decide) (fun h6 => ?_) (fun h6 => ?_)
  · exact g_none
  · refine g_iload_n hX (dc_J7_copyOf_59c91 8 rfl) rfl 1 rfl ?_
    refine g_chk (fun hc8 => ?_)
    refine g_chk (fun hl7 => ?_)
    refine g_newa_int (N := (ix x1)) hX hal hl7 (dc_J7_copyOf_59c91 9 rfl) wa_int hc8.1 rfl (by have := hc8.2; show ix _ * 4 ≤ _; omega) (by decide) (by have := hc8.2; show _ + ix _ ≤ _; simp only [rm_J7_copyOf_59c91]; omega) ?_
    refine g_widen (u' := 1) (v' := 401) (by decide) (by have := hc8.2; show _ + ix _ ≤ _; omega) ?_
    refine g_astore_n (L' := [(2, .ref (sN σ)), (0, .ref a0), (1, .int x1)]) hX (dc_J7_copyOf_59c91 10 rfl) rfl (by decide) rfl ?_
    refine g_aload_n hX (dc_J7_copyOf_59c91 11 rfl) rfl 1 rfl ?_
    refine g_iconst (w := (0 : Int32)) hX (dc_J7_copyOf_59c91 12 rfl) (by decide) ?_
    refine g_aload_n hX (dc_J7_copyOf_59c91 13 rfl) rfl 0 rfl ?_
    refine g_iconst (w := (0 : Int32)) hX (dc_J7_copyOf_59c91 14 rfl) (by decide) ?_
    refine g_aload_n hX (dc_J7_copyOf_59c91 15 rfl) rfl 1 rfl ?_
    refine g_alen (w := (Int32.ofNat n0)) hX (dc_J7_copyOf_59c91 16 rfl) (Or.inl ha0) (by decide) rfl ?_
    refine g_iload_n hX (dc_J7_copyOf_59c91 17 rfl) rfl 2 rfl ?_
    refine gS_PI (As := [.int (Int32.ofNat n0), .int x1]) (st := [.int (0 : Int32), .ref (sN σ), .int (0 : Int32), .ref a0]) hX (dc_J7_copyOf_59c91 18 rfl) ml_J7_304 (con_J9_min_7cf53 hO hΩ (Int32.ofNat n0) x1 (al σ 0 (ix x1))) rfl rfl ⟨by decide, by decide⟩ ⟨rfl, rfl⟩ ⟨by decide, by decide⟩ (Nat.le_of_ble_eq_true rfl) (fun r9 _ => ?_)
    refine g_chk (fun hc10 => ?_)
    refine g_copy hX (dc_J7_copyOf_59c91 19 rfl) ma_J7_150 (Or.inl ha0) tf_new hc10 (by decide) (by decide) (Nat.le_of_ble_eq_true rfl) ?_
    refine g_aload_n hX (dc_J7_copyOf_59c91 20 rfl) rfl 0 rfl ?_
    exact g_aret (r := some ((sN σ))) hX (dc_J7_copyOf_59c91 21 rfl) (Or.inr ⟨_, rfl⟩) rfl (by decide) (by decide)
def f_J7_copyOf_59c91 (a0 : Nat) (n0 : Nat) (x1 : Int32) (σ : MS) : Option (Nat × MS) := b_J7_copyOf_59c91_0 a0 n0 x1 σ
theorem con_J7_copyOf_59c91 {Ω : OM} (hO : OKO Ω) (hal : oAl Ω) (hΩ : oSH Ω = SHX) (a0 : Nat) (n0 : Nat) (x1 : Int32) (σ : MS) (ha0 : (oSH Ω)[a0]? = some (0, n0)) : Con Ω yJ7_copyOf_59c91 cJ7_copyOf_59c91 3 (some (.array .int)) rm_J7_copyOf_59c91 (emWR) [.ref a0, .int x1] σ (f_J7_copyOf_59c91 a0 n0 x1 σ) :=
  con_ofF hO (by decide +kernel) (Nat.le_of_ble_eq_true rfl) rfl (fun X hX hn => c_J7_copyOf_59c91_0 hX hO hal hΩ a0 n0 ha0 x1 σ )
def it_X6_init : List (Nat × Instr × Nat × Nat) := [(0, .aload_n 0, 1, 1), (1, .invokespecial 1, 3, 4), (4, .aload_n 0, 1, 5), (5, .aload_n 1, 1, 6), (6, .iconst 0, 1, 7), (7, .iload_n 2, 1, 8), (8, .invokestatic 7, 3, 11), (11, .invokestatic 13, 3, 14), (14, .putfield 19, 3, 17), (17, .return_, 1, 18)]
theorem id_X6_init : ∀ q ∈ it_X6_init, decode cX6_init q.1 = .ok (q.2.1, q.2.2.1) ∧ q.1 + q.2.2.1 = q.2.2.2 := by decide +kernel
theorem dc_X6_init {pc : Nat} {i : Instr} {n pc' : Nat} (j : Nat) (h : it_X6_init[j]? = some (pc, i, n, pc')) : Dc cX6_init pc i n pc' := dc_of id_X6_init j h
abbrev rm_X6_init : Room := { frames := 2, cells := 1, slots := 401, locals := 82 }
def b_X6_init_0 (a0 : Nat) (a1 : Nat) (n1 : Nat)  (x2 : Int32)  (σ : MS) : Option (MS) := (f_J9_max_7cf53 (0 : Int32) x2).bind (fun r5 => (f_J7_copyOf_59c91 a1 n1 r5 σ).bind (fun r6 => @chk (tfd r6.2 a0 (30 + 6, 0)) (dec_tfd r6.2 a0 (30 + 6, 0)) _ (@chk (finOK (wR r6.2 a0 0 (some r6.1)) a0 6) (dec_finOK (wR r6.2 a0 0 (some r6.1)) a0 6) _ (some (fin (wR r6.2 a0 0 (some r6.1)) a0 6)))))
set_option maxHeartbeats 4000000 in
set_option maxRecDepth 20000 in
theorem c_X6_init_0 {X : CX} {Ω : OM} (hX : CF X Ω RX6 cX6_init 3 none rm_X6_init) (hO : OKO Ω) (hal : oAl Ω) (hn : X.2.2.2.2.2.2.2.2.1.name = "<init>") (hΩ : oSH Ω = SHX) (a0 : Nat) (a1 : Nat) (n1 : Nat) (hs0 : (oSH Ω).length ≤ a0) (ha1 : (oSH Ω)[a1]? = some (0, n1))  (x2 : Int32)  (σ : MS) (ha0 : tf Ω σ a0 (30 + 6, 0)) : GE X Ω 3 1 401 (emWV) 0 0 0 [(0, .ref a0), (1, .ref a1), (2, .int x2)] [] σ (b_X6_init_0 a0 a1 n1 x2 σ) := by
  unfold b_X6_init_0
  refine g_aload_n hX (dc_X6_init 0 rfl) rfl 0 rfl ?_
  refine g_objinit hX (dc_X6_init 1 rfl) mo_X6_1 wo_i wo_c (by decide) (by decide) (Nat.le_of_ble_eq_true rfl) ?_
  refine g_aload_n hX (dc_X6_init 2 rfl) rfl 0 rfl ?_
  refine g_aload_n hX (dc_X6_init 3 rfl) rfl 1 rfl ?_
  refine g_iconst (w := (0 : Int32)) hX (dc_X6_init 4 rfl) (by decide) ?_
  refine g_iload_n hX (dc_X6_init 5 rfl) rfl 2 rfl ?_
  refine gS_PI (As := [.int (0 : Int32), .int x2]) (st := [.ref a1, .ref a0]) hX (dc_X6_init 6 rfl) ml_X6_7 (con_J9_max_7cf53 hO hΩ (0 : Int32) x2 σ) rfl rfl ⟨by decide, by decide⟩ ⟨rfl, rfl⟩ ⟨by decide, by decide⟩ (Nat.le_of_ble_eq_true rfl) (fun r5 _ => ?_)
  refine gSa_WR (As := [.ref a1, .int r5]) (st := [.ref a0]) hX (dc_X6_init 7 rfl) ml_X6_13 (con_J7_copyOf_59c91 hO hal hΩ a1 n1 r5 σ ha1) rfl rfl ⟨by decide, by decide⟩ ⟨by decide, by decide⟩ (Nat.le_of_ble_eq_true rfl) (fun r6 _ => ?_)
  refine g_chkd (fun ht7 => ?_)
  refine g_putN (raw := true) (r := (some r6.1)) hX (dc_X6_init 8 rfl) fl_X6_19 (by decide) (Or.inr ⟨rfl, rfl⟩) (fun w => by cases w <;> exact ⟨rfl, rfl⟩) ht7.t (Or.inr ⟨hn, rfl, rfl⟩) ?_
  refine g_chkd (fun hf8 => ?_)
  refine g_fin ht7.t (by decide) hf8 hs0 ?_
  exact g_vret hX (dc_X6_init 9 rfl) rfl (by decide) (by decide)
def f_X6_init (a0 : Nat) (a1 : Nat) (n1 : Nat) (x2 : Int32) (σ : MS) : Option (MS) := b_X6_init_0 a0 a1 n1 x2 σ
theorem con_X6_init {Ω : OM} (hO : OKO Ω) (hal : oAl Ω) (hΩ : oSH Ω = SHX) (a0 : Nat) (a1 : Nat) (n1 : Nat) (x2 : Int32) (σ : MS) (ha0 : tf Ω σ a0 (30 + 6, 0)) (hs0 : (oSH Ω).length ≤ a0) (ha1 : (oSH Ω)[a1]? = some (0, n1)) : Con Ω yX6_init cX6_init 3 none rm_X6_init (emWV) [.ref a0, .ref a1, .int x2] σ (f_X6_init a0 a1 n1 x2 σ) :=
  con_of hO (by decide +kernel) (Nat.le_of_ble_eq_true rfl) rfl (fun X hX hn => c_X6_init_0 hX hO hal hn hΩ a0 a1 n1 hs0 ha1 x2 σ ha0)
def it_X7_init : List (Nat × Instr × Nat × Nat) := [(0, .aload_n 0, 1, 1), (1, .invokespecial 3, 3, 4), (4, .aload_n 0, 1, 5), (5, .bipush 64, 2, 7), (7, .newarray .int, 2, 9), (9, .putfield 11, 3, 12), (12, .aload_n 0, 1, 13), (13, .sipush 401, 3, 16), (16, .newarray .int, 2, 18), (18, .putfield 19, 3, 21), (21, .aload_n 0, 1, 22), (22, .new 22, 3, 25), (25, .dup, 1, 26), (26, .aload_n 1, 1, 27), (27, .invokespecial 24, 3, 30), (30, .putfield 27, 3, 33), (33, .return_, 1, 34)]
theorem id_X7_init : ∀ q ∈ it_X7_init, decode cX7_init q.1 = .ok (q.2.1, q.2.2.1) ∧ q.1 + q.2.2.1 = q.2.2.2 := by decide +kernel
theorem dc_X7_init {pc : Nat} {i : Instr} {n pc' : Nat} (j : Nat) (h : it_X7_init[j]? = some (pc, i, n, pc')) : Dc cX7_init pc i n pc' := dc_of id_X7_init j h
abbrev rm_X7_init : Room := { frames := 2, cells := 3, slots := 472, locals := 41 }
def b_X7_init_0 (a0 : Nat) (a1 : Nat)    (σ : MS) : Option (MS) := chk (sN σ < 1000000) (chk (sN σ + 1 < 1000000) (chk (sN σ + 2 < 1000000) ((f_X4_init (sN σ + 2) a1 (al (wR (al (wR (al σ 0 64) a0 1 (some (sN σ))) 0 401) a0 7 (some (sN σ + 1))) (30 + 4) 0)).bind (fun r12 => @chk (tfd r12 a0 (30 + 7, 0)) (dec_tfd r12 a0 (30 + 7, 0)) _ (@chk (finOK (wR r12 a0 0 (some (sN σ + 2))) a0 7) (dec_finOK (wR r12 a0 0 (some (sN σ + 2))) a0 7) _ (some (fin (wR r12 a0 0 (some (sN σ + 2))) a0 7)))))))
set_option maxHeartbeats 4000000 in
set_option maxRecDepth 20000 in
theorem c_X7_init_0 {X : CX} {Ω : OM} (hX : CF X Ω RX7 cX7_init 2 none rm_X7_init) (hO : OKO Ω) (hal : oAl Ω) (hn : X.2.2.2.2.2.2.2.2.1.name = "<init>") (a0 : Nat) (a1 : Nat) (hs0 : (oSH Ω).length ≤ a0)    (σ : MS) (ha0 : tf Ω σ a0 (30 + 7, 0)) : GE X Ω 2 3 472 (emWV) 0 0 0 [(0, .ref a0), (1, .ref a1)] [] σ (b_X7_init_0 a0 a1 σ) := by
  unfold b_X7_init_0
  refine g_aload_n hX (dc_X7_init 0 rfl) rfl 0 rfl ?_
  refine g_objinit hX (dc_X7_init 1 rfl) mo_X7_3 wo_i wo_c (by decide) (by decide) (Nat.le_of_ble_eq_true rfl) ?_
  refine g_aload_n hX (dc_X7_init 2 rfl) rfl 0 rfl ?_
  refine g_bipush (w := (64 : Int32)) hX (dc_X7_init 3 rfl) (by decide) ?_
  refine g_chk (fun hl8 => ?_)
  refine g_newa_int (N := 64) hX hal hl8 (dc_X7_init 4 rfl) wa_int (by decide) (by decide) (by decide) (by decide) (by decide) ?_
  refine g_putN (raw := true) (r := (some (sN σ))) hX (dc_X7_init 5 rfl) fl_X7_11 (by decide) (Or.inr ⟨rfl, rfl⟩) (fun w => by cases w <;> exact ⟨rfl, rfl⟩) (tf_al ha0) (Or.inr ⟨hn, rfl, rfl⟩) ?_
  refine g_aload_n hX (dc_X7_init 6 rfl) rfl 0 rfl ?_
  refine g_sipush (w := (401 : Int32)) hX (dc_X7_init 7 rfl) (by decide) ?_
  refine g_chk (fun hl9 => ?_)
  refine g_newa_int (N := 401) hX hal hl9 (dc_X7_init 8 rfl) wa_int (by decide) (by decide) (by decide) (by decide) (by decide) ?_
  refine g_putN (raw := true) (r := (some (sN σ + 1))) hX (dc_X7_init 9 rfl) fl_X7_19 (by decide) (Or.inr ⟨rfl, rfl⟩) (fun w => by cases w <;> exact ⟨rfl, rfl⟩) (tf_al (tf_al ha0)) (Or.inr ⟨hn, rfl, rfl⟩) ?_
  refine g_aload_n hX (dc_X7_init 10 rfl) rfl 0 rfl ?_
  refine g_chk (fun hl10 => ?_)
  refine g_new (ci := 4) hX hal hl10 (dc_X7_init 11 rfl) wl_X7_22 wb_X4 wn_X4 (by decide) (by decide) (by decide) (fun hq11 => ?_)
  refine g_dup hX (dc_X7_init 12 rfl) rfl ?_
  refine g_aload_n hX (dc_X7_init 13 rfl) rfl 1 rfl ?_
  refine gI_WV (As := [.ref a1]) (st := [.ref (sN σ + 2), .ref a0]) hX (dc_X7_init 14 rfl) ml_X7_24 wi_X4_init rfl (con_X4_init hO (sN σ + 2) a1 (al (wR (al (wR (al σ 0 64) a0 1 (some (sN σ))) 0 401) a0 7 (some (sN σ + 1))) (30 + 4) 0) tf_new hq11) rfl rfl ⟨by decide, by decide⟩ ⟨by decide, by decide⟩ (Nat.le_of_ble_eq_true rfl) (fun r12 _ => ?_)
  refine g_chkd (fun ht13 => ?_)
  refine g_putN (raw := true) (r := (some (sN σ + 2))) hX (dc_X7_init 15 rfl) fl_X7_27 (by decide) (Or.inr ⟨rfl, rfl⟩) (fun w => by cases w <;> exact ⟨rfl, rfl⟩) ht13.t (Or.inr ⟨hn, rfl, rfl⟩) ?_
  refine g_chkd (fun hf14 => ?_)
  refine g_fin ht13.t (by decide) hf14 hs0 ?_
  exact g_vret hX (dc_X7_init 16 rfl) rfl (by decide) (by decide)
def f_X7_init (a0 : Nat) (a1 : Nat) (σ : MS) : Option (MS) := b_X7_init_0 a0 a1  σ
theorem con_X7_init {Ω : OM} (hO : OKO Ω) (hal : oAl Ω) (a0 : Nat) (a1 : Nat) (σ : MS) (ha0 : tf Ω σ a0 (30 + 7, 0)) (hs0 : (oSH Ω).length ≤ a0) : Con Ω yX7_init cX7_init 2 none rm_X7_init (emWV) [.ref a0, .ref a1] σ (f_X7_init a0 a1 σ) :=
  con_of hO (by decide +kernel) (Nat.le_of_ble_eq_true rfl) rfl (fun X hX hn => c_X7_init_0 hX hO hal hn a0 a1 hs0  σ ha0)
def it_X9_init : List (Nat × Instr × Nat × Nat) := [(0, .aload_n 0, 1, 1), (1, .invokespecial 1, 3, 4), (4, .aload_n 0, 1, 5), (5, .sipush 400, 3, 8), (8, .newarray .int, 2, 10), (10, .putfield 9, 3, 13), (13, .return_, 1, 14)]
theorem id_X9_init : ∀ q ∈ it_X9_init, decode cX9_init q.1 = .ok (q.2.1, q.2.2.1) ∧ q.1 + q.2.2.1 = q.2.2.2 := by decide +kernel
theorem dc_X9_init {pc : Nat} {i : Instr} {n pc' : Nat} (j : Nat) (h : it_X9_init[j]? = some (pc, i, n, pc')) : Dc cX9_init pc i n pc' := dc_of id_X9_init j h
abbrev rm_X9_init : Room := { frames := 1, cells := 1, slots := 400, locals := 20 }
def b_X9_init_0 (a0 : Nat)    (σ : MS) : Option (MS) := chk (sN σ < 1000000) (@chk (finOK (wR (al σ 0 400) a0 0 (some (sN σ))) a0 9) (dec_finOK (wR (al σ 0 400) a0 0 (some (sN σ))) a0 9) _ (some (fin (wR (al σ 0 400) a0 0 (some (sN σ))) a0 9)))
set_option maxHeartbeats 4000000 in
set_option maxRecDepth 20000 in
theorem c_X9_init_0 {X : CX} {Ω : OM} (hX : CF X Ω RX9 cX9_init 1 none rm_X9_init) (hO : OKO Ω) (hal : oAl Ω) (hn : X.2.2.2.2.2.2.2.2.1.name = "<init>") (a0 : Nat) (hs0 : (oSH Ω).length ≤ a0)    (σ : MS) (ha0 : tf Ω σ a0 (30 + 9, 0)) : GE X Ω 1 1 400 (emWV) 0 0 0 [(0, .ref a0)] [] σ (b_X9_init_0 a0 σ) := by
  unfold b_X9_init_0
  refine g_aload_n hX (dc_X9_init 0 rfl) rfl 0 rfl ?_
  refine g_objinit hX (dc_X9_init 1 rfl) mo_X9_1 wo_i wo_c (by decide) (by decide) (Nat.le_of_ble_eq_true rfl) ?_
  refine g_aload_n hX (dc_X9_init 2 rfl) rfl 0 rfl ?_
  refine g_sipush (w := (400 : Int32)) hX (dc_X9_init 3 rfl) (by decide) ?_
  refine g_chk (fun hl3 => ?_)
  refine g_newa_int (N := 400) hX hal hl3 (dc_X9_init 4 rfl) wa_int (by decide) (by decide) (by decide) (by decide) (by decide) ?_
  refine g_putN (raw := true) (r := (some (sN σ))) hX (dc_X9_init 5 rfl) fl_X9_9 (by decide) (Or.inr ⟨rfl, rfl⟩) (fun w => by cases w <;> exact ⟨rfl, rfl⟩) (tf_al ha0) (Or.inr ⟨hn, rfl, rfl⟩) ?_
  refine g_chkd (fun hf4 => ?_)
  refine g_fin (tf_al ha0) (by decide) hf4 hs0 ?_
  exact g_vret hX (dc_X9_init 6 rfl) rfl (by decide) (by decide)
def f_X9_init (a0 : Nat) (σ : MS) : Option (MS) := b_X9_init_0 a0  σ
theorem con_X9_init {Ω : OM} (hO : OKO Ω) (hal : oAl Ω) (a0 : Nat) (σ : MS) (ha0 : tf Ω σ a0 (30 + 9, 0)) (hs0 : (oSH Ω).length ≤ a0) : Con Ω yX9_init cX9_init 1 none rm_X9_init (emWV) [.ref a0] σ (f_X9_init a0 σ) :=
  con_of hO (by decide +kernel) (Nat.le_of_ble_eq_true rfl) rfl (fun X hX hn => c_X9_init_0 hX hO hal hn a0 hs0  σ ha0)
def it_X10_init : List (Nat × Instr × Nat × Nat) := [(0, .aload_n 0, 1, 1), (1, .invokespecial 3, 3, 4), (4, .aload_n 0, 1, 5), (5, .new 9, 3, 8), (8, .dup, 1, 9), (9, .invokespecial 11, 3, 12), (12, .putfield 12, 3, 15), (15, .aload_n 0, 1, 16), (16, .new 18, 3, 19), (19, .dup, 1, 20), (20, .invokespecial 20, 3, 23), (23, .putfield 21, 3, 26), (26, .aload_n 0, 1, 27), (27, .bipush 20, 2, 29), (29, .anewarray 18, 3, 32), (32, .putfield 25, 3, 35), (35, .aload_n 0, 1, 36), (36, .bipush 10, 2, 38), (38, .newarray .int, 2, 40), (40, .putfield 29, 3, 43), (43, .aload_n 0, 1, 44), (44, .bipush 10, 2, 46), (46, .newarray .int, 2, 48), (48, .putfield 33, 3, 51), (51, .aload_n 0, 1, 52), (52, .bipush 10, 2, 54), (54, .newarray .int, 2, 56), (56, .putfield 36, 3, 59), (59, .aload_n 0, 1, 60), (60, .iconst (-1), 1, 61), (61, .putfield 39, 3, 64), (64, .return_, 1, 65)]
theorem id_X10_init : ∀ q ∈ it_X10_init, decode cX10_init q.1 = .ok (q.2.1, q.2.2.1) ∧ q.1 + q.2.2.1 = q.2.2.2 := by decide +kernel
theorem dc_X10_init {pc : Nat} {i : Instr} {n pc' : Nat} (j : Nat) (h : it_X10_init[j]? = some (pc, i, n, pc')) : Dc cX10_init pc i n pc' := dc_of id_X10_init j h
abbrev rm_X10_init : Room := { frames := 3, cells := 20, slots := 141, locals := 63 }
def b_X10_init_59 (a0 : Nat)    (σ : MS) : Option (MS) := @chk (finOK (wI σ a0 9 (-1 : Int32)) a0 10) (dec_finOK (wI σ a0 9 (-1 : Int32)) a0 10) _ (some (fin (wI σ a0 9 (-1 : Int32)) a0 10))
set_option maxHeartbeats 4000000 in
set_option maxRecDepth 20000 in
theorem c_X10_init_59 {X : CX} {Ω : OM} (hX : CF X Ω RX10 cX10_init 1 none rm_X10_init) (hO : OKO Ω) (hal : oAl Ω) (hn : X.2.2.2.2.2.2.2.2.1.name = "<init>") (a0 : Nat) (hs0 : (oSH Ω).length ≤ a0)    (σ : MS) (ha0 : tf Ω σ a0 (30 + 10, 0)) : GE X Ω 1 20 141 (emWV) 20 141 59 [(0, .ref a0)] [] σ (b_X10_init_59 a0 σ) := by
  unfold b_X10_init_59
  refine g_aload_n hX (dc_X10_init 28 rfl) rfl 0 rfl ?_
  refine g_iconst (w := (-1 : Int32)) hX (dc_X10_init 29 rfl) (by decide) ?_
  refine g_putI (raw := true) hX (dc_X10_init 30 rfl) fl_X10_39 (by decide) ⟨rfl, rfl⟩ ⟨rfl, rfl⟩ ha0 ?_
  refine g_chkd (fun hf14 => ?_)
  refine g_fin ha0 (by decide) hf14 hs0 ?_
  exact g_vret hX (dc_X10_init 31 rfl) rfl (by decide) (by decide)
def b_X10_init_0 (a0 : Nat)    (σ : MS) : Option (MS) := chk (sN σ < 1000000) ((f_X3_init (sN σ) (al σ (30 + 3) 0)).bind (fun r17 => @chk (tfd r17 a0 (30 + 10, 0)) (dec_tfd r17 a0 (30 + 10, 0)) _ (chk (sN r17 < 1000000) ((f_X8_init (sN r17) (al (wR r17 a0 0 (some (sN σ))) (30 + 8) 0)).bind (fun r21 => @chk (tfd r21 a0 (30 + 10, 0)) (dec_tfd r21 a0 (30 + 10, 0)) _ (chk (sN r21 < 1000000) (chk (sN r21 + 1 < 1000000) (chk (sN r21 + 2 < 1000000) (chk (sN r21 + 3 < 1000000) ((b_X10_init_59 a0 (wR (al (wR (al (wR (al (wR (al (wR r21 a0 1 (some (sN r17))) 4 20) a0 2 (some (sN r21))) 0 10) a0 5 (some (sN r21 + 1))) 0 10) a0 6 (some (sN r21 + 2))) 0 10) a0 7 (some (sN r21 + 3))))))))))))))
set_option maxHeartbeats 4000000 in
set_option maxRecDepth 20000 in
theorem c_X10_init_0 {X : CX} {Ω : OM} (hX : CF X Ω RX10 cX10_init 1 none rm_X10_init) (hO : OKO Ω) (hal : oAl Ω) (hn : X.2.2.2.2.2.2.2.2.1.name = "<init>") (a0 : Nat) (hs0 : (oSH Ω).length ≤ a0)    (σ : MS) (ha0 : tf Ω σ a0 (30 + 10, 0)) : GE X Ω 1 20 141 (emWV) 0 0 0 [(0, .ref a0)] [] σ (b_X10_init_0 a0 σ) := by
  unfold b_X10_init_0
  refine g_aload_n hX (dc_X10_init 0 rfl) rfl 0 rfl ?_
  refine g_objinit hX (dc_X10_init 1 rfl) mo_X10_3 wo_i wo_c (by decide) (by decide) (Nat.le_of_ble_eq_true rfl) ?_
  refine g_aload_n hX (dc_X10_init 2 rfl) rfl 0 rfl ?_
  refine g_chk (fun hl15 => ?_)
  refine g_new (ci := 3) hX hal hl15 (dc_X10_init 3 rfl) wl_X10_9 wb_X3 wn_X3 (by decide) (by decide) (by decide) (fun hq16 => ?_)
  refine g_dup hX (dc_X10_init 4 rfl) rfl ?_
  refine gN_WV (As := []) (st := [.ref (sN σ), .ref a0]) hX (dc_X10_init 5 rfl) (by decide +kernel : Cond.methodLinkNest RX10 11 yX3_init "StampDuchy" ∈ nestL) ⟨wn_X3, wc_X3_init, by decide, by decide, by decide +kernel⟩ wi_X3_init rfl (con_X3_init hO hal (sN σ) (al σ (30 + 3) 0) tf_new hq16) rfl rfl ⟨by decide, by decide⟩ ⟨by decide, by decide⟩ (Nat.le_of_ble_eq_true rfl) (fun r17 _ => ?_)
  refine g_chkd (fun ht18 => ?_)
  refine g_putN (raw := true) (r := (some (sN σ))) hX (dc_X10_init 6 rfl) fl_X10_12 (by decide) (Or.inr ⟨rfl, rfl⟩) (fun w => by cases w <;> exact ⟨rfl, rfl⟩) ht18.t (Or.inr ⟨hn, rfl, rfl⟩) ?_
  refine g_aload_n hX (dc_X10_init 7 rfl) rfl 0 rfl ?_
  refine g_chk (fun hl19 => ?_)
  refine g_new (ci := 8) hX hal hl19 (dc_X10_init 8 rfl) wl_X10_18 wb_X8 wn_X8 (by decide) (by decide) (by decide) (fun hq20 => ?_)
  refine g_dup hX (dc_X10_init 9 rfl) rfl ?_
  refine gI_WV (As := []) (st := [.ref (sN r17), .ref a0]) hX (dc_X10_init 10 rfl) ml_X10_20 wi_X8_init rfl (con_X8_init hO hal (sN r17) (al (wR r17 a0 0 (some (sN σ))) (30 + 8) 0) tf_new hq20) rfl rfl ⟨by decide, by decide⟩ ⟨by decide, by decide⟩ (Nat.le_of_ble_eq_true rfl) (fun r21 _ => ?_)
  refine g_chkd (fun ht22 => ?_)
  refine g_putN (raw := true) (r := (some (sN r17))) hX (dc_X10_init 11 rfl) fl_X10_21 (by decide) (Or.inr ⟨rfl, rfl⟩) (fun w => by cases w <;> exact ⟨rfl, rfl⟩) ht22.t (Or.inr ⟨hn, rfl, rfl⟩) ?_
  refine g_aload_n hX (dc_X10_init 12 rfl) rfl 0 rfl ?_
  refine g_bipush (w := (20 : Int32)) hX (dc_X10_init 13 rfl) (by decide) ?_
  refine g_chk (fun hl23 => ?_)
  refine g_anew (N := 20) (kd := 4) hX hal hl23 (dc_X10_init 14 rfl) wl_X10_18 (Or.inl ⟨rfl, rfl⟩) (by decide) (by decide) (by decide) (by decide) (by decide) ?_
  refine g_putN (raw := true) (r := (some (sN r21))) hX (dc_X10_init 15 rfl) fl_X10_25 (by decide) (Or.inr ⟨rfl, rfl⟩) (fun w => by cases w <;> exact ⟨rfl, rfl⟩) (tf_al ht22.t) (Or.inr ⟨hn, rfl, rfl⟩) ?_
  refine g_aload_n hX (dc_X10_init 16 rfl) rfl 0 rfl ?_
  refine g_bipush (w := (10 : Int32)) hX (dc_X10_init 17 rfl) (by decide) ?_
  refine g_chk (fun hl24 => ?_)
  refine g_newa_int (N := 10) hX hal hl24 (dc_X10_init 18 rfl) wa_int (by decide) (by decide) (by decide) (by decide) (by decide) ?_
  refine g_putN (raw := true) (r := (some (sN r21 + 1))) hX (dc_X10_init 19 rfl) fl_X10_29 (by decide) (Or.inr ⟨rfl, rfl⟩) (fun w => by cases w <;> exact ⟨rfl, rfl⟩) (tf_al (tf_al ht22.t)) (Or.inr ⟨hn, rfl, rfl⟩) ?_
  refine g_aload_n hX (dc_X10_init 20 rfl) rfl 0 rfl ?_
  refine g_bipush (w := (10 : Int32)) hX (dc_X10_init 21 rfl) (by decide) ?_
  refine g_chk (fun hl25 => ?_)
  refine g_newa_int (N := 10) hX hal hl25 (dc_X10_init 22 rfl) wa_int (by decide) (by decide) (by decide) (by decide) (by decide) ?_
  refine g_putN (raw := true) (r := (some (sN r21 + 2))) hX (dc_X10_init 23 rfl) fl_X10_33 (by decide) (Or.inr ⟨rfl, rfl⟩) (fun w => by cases w <;> exact ⟨rfl, rfl⟩) (tf_al (tf_al (tf_al ht22.t))) (Or.inr ⟨hn, rfl, rfl⟩) ?_
  refine g_aload_n hX (dc_X10_init 24 rfl) rfl 0 rfl ?_
  refine g_bipush (w := (10 : Int32)) hX (dc_X10_init 25 rfl) (by decide) ?_
  refine g_chk (fun hl26 => ?_)
  refine g_newa_int (N := 10) hX hal hl26 (dc_X10_init 26 rfl) wa_int (by decide) (by decide) (by decide) (by decide) (by decide) ?_
  refine g_putN (raw := true) (r := (some (sN r21 + 3))) hX (dc_X10_init 27 rfl) fl_X10_36 (by decide) (Or.inr ⟨rfl, rfl⟩) (fun w => by cases w <;> exact ⟨rfl, rfl⟩) (tf_al (tf_al (tf_al (tf_al ht22.t)))) (Or.inr ⟨hn, rfl, rfl⟩) ?_
  refine g_widen (u' := 20) (v' := 141) (by decide) (by decide) ?_
  exact g_sub [0] rfl (c_X10_init_59 hX hO hal hn a0 hs0 (wR (al (wR (al (wR (al (wR (al (wR r21 a0 1 (some (sN r17))) 4 20) a0 2 (some (sN r21))) 0 10) a0 5 (some (sN r21 + 1))) 0 10) a0 6 (some (sN r21 + 2))) 0 10) a0 7 (some (sN r21 + 3))) (tf_al (tf_al (tf_al (tf_al ht22.t)))))
def f_X10_init (a0 : Nat) (σ : MS) : Option (MS) := b_X10_init_0 a0  σ
theorem con_X10_init {Ω : OM} (hO : OKO Ω) (hal : oAl Ω) (a0 : Nat) (σ : MS) (ha0 : tf Ω σ a0 (30 + 10, 0)) (hs0 : (oSH Ω).length ≤ a0) : Con Ω yX10_init cX10_init 1 none rm_X10_init (emWV) [.ref a0] σ (f_X10_init a0 σ) :=
  con_of hO (by decide +kernel) (Nat.le_of_ble_eq_true rfl) rfl (fun X hX hn => c_X10_init_0 hX hO hal hn a0 hs0  σ ha0)
def it_X10_keepPast : List (Nat × Instr × Nat × Nat) := [(0, .aload_n 0, 1, 1), (1, .getfield 25, 3, 4), (4, .iload_n 1, 1, 5), (5, .aaload, 1, 6), (6, .astore_n 3, 1, 7), (7, .aload_n 3, 1, 8), (8, .ifnonnull 18, 3, 11), (11, .new 18, 3, 14), (14, .dup, 1, 15), (15, .invokespecial 20, 3, 18), (18, .astore_n 3, 1, 19), (19, .aload_n 0, 1, 20), (20, .getfield 25, 3, 23), (23, .iload_n 1, 1, 24), (24, .aload_n 3, 1, 25), (25, .aastore, 1, 26), (26, .aload_n 3, 1, 27), (27, .aload_n 2, 1, 28), (28, .invokevirtual 50, 3, 31), (31, .return_, 1, 32)]
theorem id_X10_keepPast : ∀ q ∈ it_X10_keepPast, decode cX10_keepPast q.1 = .ok (q.2.1, q.2.2.1) ∧ q.1 + q.2.2.1 = q.2.2.2 := by decide +kernel
theorem dc_X10_keepPast {pc : Nat} {i : Instr} {n pc' : Nat} (j : Nat) (h : it_X10_keepPast[j]? = some (pc, i, n, pc')) : Dc cX10_keepPast pc i n pc' := dc_of id_X10_keepPast j h
abbrev rm_X10_keepPast : Room := { frames := 2, cells := 4, slots := 22, locals := 81 }
def b_X10_keepPast_26 (a0 : Nat) (a2 : Nat)   (p3 : Nat) (σ : MS) : Option (MS) := @chk (dRt σ p3 shState) (dec_dRt σ p3 shState) _ ((f_X8_copyFrom p3 a2 σ).bind (fun r13 => some (r13)))
set_option maxHeartbeats 4000000 in
set_option maxRecDepth 20000 in
theorem c_X10_keepPast_26 {X : CX} {Ω : OM} (hX : CF X Ω RX10 cX10_keepPast 4 none rm_X10_keepPast) (hO : OKO Ω) (hal : oAl Ω) (hΩ : oSH Ω = SHX) (a0 : Nat) (a2 : Nat)    (p3 : Nat) (σ : MS) (ha0 : tRt Ω σ a0 shWorld) (ha2 : tRt Ω σ a2 shState) : GE X Ω 4 4 22 (emWV) 4 22 26 [(2, .ref a2), (3, .ref p3)] [] σ (b_X10_keepPast_26 a0 a2 p3 σ) := by
  unfold b_X10_keepPast_26
  refine g_chkd (fun ho12 => ?_)
  refine g_aload_n hX (dc_X10_keepPast 16 rfl) rfl 1 rfl ?_
  refine g_aload_n hX (dc_X10_keepPast 17 rfl) rfl 0 rfl ?_
  refine gV_WV (As := [.ref a2]) (st := []) hX (dc_X10_keepPast 18 rfl) ml_X10_50 (con_X8_copyFrom hO hΩ p3 a2 σ (ho12.t) ha2) ((ho12.t) 0 _ rfl) rfl rfl ⟨by decide, by decide⟩ ⟨rfl, rfl⟩ ⟨by decide, by decide⟩ (Nat.le_of_ble_eq_true rfl) (fun r13 _ => ?_)
  exact g_vret hX (dc_X10_keepPast 19 rfl) rfl (by decide) (by decide)
def b_X10_keepPast_0 (a0 : Nat) (a2 : Nat)  (x1 : Int32)  (σ : MS) : Option (MS) := chk (inb x1 20) ((onr (sR σ (a0 + 17) (ix x1)) (chk (sN σ < 1000000) ((f_X8_init (sN σ) (al σ (30 + 8) 0)).bind (fun r19 => @chk (dRt r19 a0 shWorld) (dec_dRt r19 a0 shWorld) _ (@chk (tfd r19 (sN σ) (10 + 8, 0)) (dec_tfd r19 (sN σ) (10 + 8, 0)) _ (chk (inb x1 20) (@chk (dRt (wR r19 (a0 + 17) (ix x1) (some (sN σ))) a2 shState) (dec_dRt (wR r19 (a0 + 17) (ix x1) (some (sN σ))) a2 shState) _ ((b_X10_keepPast_26 a0 a2 ((sN σ)) (wR r19 (a0 + 17) (ix x1) (some (sN σ))))))))))) (fun b15 => @chk (dRt σ b15 shState) (dec_dRt σ b15 shState) _ ((b_X10_keepPast_26 a0 a2 (b15) σ)))))
set_option maxHeartbeats 4000000 in
set_option maxRecDepth 20000 in
theorem c_X10_keepPast_0 {X : CX} {Ω : OM} (hX : CF X Ω RX10 cX10_keepPast 4 none rm_X10_keepPast) (hO : OKO Ω) (hal : oAl Ω) (hΩ : oSH Ω = SHX) (a0 : Nat) (a2 : Nat)   (x1 : Int32)  (σ : MS) (ha0 : tRt Ω σ a0 shWorld) (ha2 : tRt Ω σ a2 shState) : GE X Ω 4 4 22 (emWV) 0 0 0 [(0, .ref a0), (1, .int x1), (2, .ref a2)] [] σ (b_X10_keepPast_0 a0 a2 x1 σ) := by
  unfold b_X10_keepPast_0
  refine g_aload_n hX (dc_X10_keepPast 0 rfl) rfl 0 rfl ?_
  refine g_getF (q := (a0 + 17)) hX (dc_X10_keepPast 1 rfl) fl_X10_25 (by decide) rfl (ha0 0 _ rfl) rfl ?_
  refine g_iload_n hX (dc_X10_keepPast 2 rfl) rfl 1 rfl ?_
  refine g_chk (fun hc14 => ?_)
  refine g_aald hX (dc_X10_keepPast 3 rfl) (ha0 17 _ rfl) ⟨by decide, by decide⟩ rfl hc14 rfl (fun _ => ?_) (fun b15 hb16 => ?_)
  · refine g_astoreN_n (L' := [(3, .null), (0, .ref a0), (1, .int x1), (2, .ref a2)]) hX (dc_X10_keepPast 4 rfl) rfl (by decide) rfl ?_
    refine g_aloadN_n hX (dc_X10_keepPast 5 rfl) rfl 0 rfl ?_
    refine g_ifnonnull_N (tgt := 0) hX (dc_X10_keepPast 6 rfl) ?_
    refine g_chk (fun hl17 => ?_)
    refine g_new (ci := 8) hX hal hl17 (dc_X10_keepPast 7 rfl) wl_X10_18 wb_X8 wn_X8 (by decide) (by decide) (by decide) (fun hq18 => ?_)
    refine g_dup hX (dc_X10_keepPast 8 rfl) rfl ?_
    refine gI_WV (As := []) (st := [.ref (sN σ)]) hX (dc_X10_keepPast 9 rfl) ml_X10_20 wi_X8_init rfl (con_X8_init hO hal (sN σ) (al σ (30 + 8) 0) tf_new hq18) rfl rfl ⟨by decide, by decide⟩ ⟨by decide, by decide⟩ (Nat.le_of_ble_eq_true rfl) (fun r19 _ => ?_)
    refine g_astore_n (L' := [(3, .ref (sN σ)), (0, .ref a0), (1, .int x1), (2, .ref a2)]) hX (dc_X10_keepPast 10 rfl) rfl (by decide) rfl ?_
    refine g_aload_n hX (dc_X10_keepPast 11 rfl) rfl 1 rfl ?_
    refine g_chkd (fun hd20 => ?_)
    refine g_getF (q := (a0 + 17)) hX (dc_X10_keepPast 12 rfl) fl_X10_25 (by decide) rfl (hd20.t 0 _ rfl) rfl ?_
    refine g_iload_n hX (dc_X10_keepPast 13 rfl) rfl 2 rfl ?_
    refine g_aload_n hX (dc_X10_keepPast 14 rfl) rfl 0 rfl ?_
    refine g_chkd (fun ht22 => ?_)
    refine g_chk (fun hc21 => ?_)
    refine g_aast (ci := 8) hX (dc_X10_keepPast 15 rfl) (hd20.t 17 _ rfl) ⟨by decide, by decide⟩ rfl (by decide) ht22.t hc21 rfl ?_
    refine g_chkd (fun hd23 => ?_)
    refine g_widen (u' := 4) (v' := 22) (by decide) (by decide) ?_
    exact g_sub [3, 0] rfl (c_X10_keepPast_26 hX hO hal hΩ a0 a2 ((sN σ)) (wR r19 (a0 + 17) (ix x1) (some (sN σ))) hd20.t hd23.t)
  · refine g_chkd (fun ho24 => ?_)
    refine g_astore_n (L' := [(3, .ref b15), (0, .ref a0), (1, .int x1), (2, .ref a2)]) hX (dc_X10_keepPast 4 rfl) rfl (by decide) rfl ?_
    refine g_aload_n hX (dc_X10_keepPast 5 rfl) rfl 0 rfl ?_
    refine g_ifnonnull_R (tgt := 26) hX (dc_X10_keepPast 6 rfl) (by decide) ?_
    refine g_widen (u' := 4) (v' := 22) (by decide) (by decide) ?_
    exact g_sub [3, 0] rfl (c_X10_keepPast_26 hX hO hal hΩ a0 a2 (b15) σ ha0 ha2)
def f_X10_keepPast (a0 : Nat) (x1 : Int32) (a2 : Nat) (σ : MS) : Option (MS) := b_X10_keepPast_0 a0 a2 x1 σ
theorem con_X10_keepPast {Ω : OM} (hO : OKO Ω) (hal : oAl Ω) (hΩ : oSH Ω = SHX) (a0 : Nat) (x1 : Int32) (a2 : Nat) (σ : MS) (ha0 : tRt Ω σ a0 shWorld) (ha2 : tRt Ω σ a2 shState) : Con Ω yX10_keepPast cX10_keepPast 4 none rm_X10_keepPast (emWV) [.ref a0, .int x1, .ref a2] σ (f_X10_keepPast a0 x1 a2 σ) :=
  con_of hO (by decide +kernel) (Nat.le_of_ble_eq_true rfl) rfl (fun X hX hn => c_X10_keepPast_0 hX hO hal hΩ a0 a2  x1 σ ha0 ha2)
def it_X10_copyFrom : List (Nat × Instr × Nat × Nat) := [(0, .aload_n 0, 1, 1), (1, .getfield 12, 3, 4), (4, .aload_n 1, 1, 5), (5, .getfield 12, 3, 8), (8, .invokevirtual 43, 3, 11), (11, .aload_n 0, 1, 12), (12, .getfield 21, 3, 15), (15, .aload_n 1, 1, 16), (16, .getfield 21, 3, 19), (19, .invokevirtual 50, 3, 22), (22, .iconst 0, 1, 23), (23, .istore_n 2, 1, 24), (24, .iload_n 2, 1, 25), (25, .bipush 20, 2, 27), (27, .if_icmp .ge 29, 3, 30), (30, .aload_n 1, 1, 31), (31, .getfield 25, 3, 34), (34, .iload_n 2, 1, 35), (35, .aaload, 1, 36), (36, .ifnull 14, 3, 39), (39, .aload_n 0, 1, 40), (40, .iload_n 2, 1, 41), (41, .aload_n 1, 1, 42), (42, .getfield 25, 3, 45), (45, .iload_n 2, 1, 46), (46, .aaload, 1, 47), (47, .invokevirtual 59, 3, 50), (50, .iinc 2 1, 3, 53), (53, .goto (-29), 3, 56), (56, .aload_n 0, 1, 57), (57, .aload_n 1, 1, 58), (58, .getfield 63, 3, 61), (61, .putfield 63, 3, 64), (64, .aload_n 0, 1, 65), (65, .aload_n 1, 1, 66), (66, .getfield 53, 3, 69), (69, .putfield 53, 3, 72), (72, .aload_n 1, 1, 73), (73, .getfield 29, 3, 76), (76, .iconst 0, 1, 77), (77, .aload_n 0, 1, 78), (78, .getfield 29, 3, 81), (81, .iconst 0, 1, 82), (82, .bipush 10, 2, 84), (84, .invokestatic 66, 3, 87), (87, .aload_n 1, 1, 88), (88, .getfield 33, 3, 91), (91, .iconst 0, 1, 92), (92, .aload_n 0, 1, 93), (93, .getfield 33, 3, 96), (96, .iconst 0, 1, 97), (97, .bipush 10, 2, 99), (99, .invokestatic 66, 3, 102), (102, .aload_n 1, 1, 103), (103, .getfield 36, 3, 106), (106, .iconst 0, 1, 107), (107, .aload_n 0, 1, 108), (108, .getfield 36, 3, 111), (111, .iconst 0, 1, 112), (112, .bipush 10, 2, 114), (114, .invokestatic 66, 3, 117), (117, .aload_n 0, 1, 118), (118, .aload_n 1, 1, 119), (119, .getfield 56, 3, 122), (122, .putfield 56, 3, 125), (125, .aload_n 0, 1, 126), (126, .aload_n 1, 1, 127), (127, .getfield 39, 3, 130), (130, .putfield 39, 3, 133), (133, .aload_n 0, 1, 134), (134, .aload_n 1, 1, 135), (135, .getfield 72, 3, 138), (138, .putfield 72, 3, 141), (141, .return_, 1, 142)]
theorem id_X10_copyFrom : ∀ q ∈ it_X10_copyFrom, decode cX10_copyFrom q.1 = .ok (q.2.1, q.2.2.1) ∧ q.1 + q.2.2.1 = q.2.2.2 := by decide +kernel
theorem dc_X10_copyFrom {pc : Nat} {i : Instr} {n pc' : Nat} (j : Nat) (h : it_X10_copyFrom[j]? = some (pc, i, n, pc')) : Dc cX10_copyFrom pc i n pc' := dc_of id_X10_copyFrom j h
abbrev rm_X10_copyFrom : Room := { frames := 3, cells := 84, slots := 462, locals := 104 }
def b_X10_copyFrom_141 (a0 : Nat) (a1 : Nat)    (σ : MS) : Option (MS) := some (σ)
set_option maxHeartbeats 4000000 in
set_option maxRecDepth 20000 in
theorem c_X10_copyFrom_141 {X : CX} {Ω : OM} (hX : CF X Ω RX10 cX10_copyFrom 3 none rm_X10_copyFrom) (hO : OKO Ω) (hal : oAl Ω) (hΩ : oSH Ω = SHX) (a0 : Nat) (a1 : Nat)     (σ : MS) (ha0 : tRt Ω σ a0 shWorld) (ha1 : tRt Ω σ a1 shWorld) : GE X Ω 3 84 462 (emWV) 84 462 141 [] [] σ (b_X10_copyFrom_141 a0 a1 σ) := by
  unfold b_X10_copyFrom_141
  exact g_vret hX (dc_X10_copyFrom 73 rfl) rfl (by decide) (by decide)
def b_X10_copyFrom_117 (a0 : Nat) (a1 : Nat)    (σ : MS) : Option (MS) := (b_X10_copyFrom_141 a0 a1 (wI (wI (wI σ a0 8 (sI σ a1 8)) a0 9 (sI (wI σ a0 8 (sI σ a1 8)) a1 9)) a0 10 (sI (wI (wI σ a0 8 (sI σ a1 8)) a0 9 (sI (wI σ a0 8 (sI σ a1 8)) a1 9)) a1 10)))
set_option maxHeartbeats 4000000 in
set_option maxRecDepth 20000 in
theorem c_X10_copyFrom_117 {X : CX} {Ω : OM} (hX : CF X Ω RX10 cX10_copyFrom 3 none rm_X10_copyFrom) (hO : OKO Ω) (hal : oAl Ω) (hΩ : oSH Ω = SHX) (a0 : Nat) (a1 : Nat)     (σ : MS) (ha0 : tRt Ω σ a0 shWorld) (ha1 : tRt Ω σ a1 shWorld) : GE X Ω 3 84 462 (emWV) 84 462 117 [(0, .ref a0), (1, .ref a1)] [] σ (b_X10_copyFrom_117 a0 a1 σ) := by
  unfold b_X10_copyFrom_117
  refine g_aload_n hX (dc_X10_copyFrom 61 rfl) rfl 0 rfl ?_
  refine g_aload_n hX (dc_X10_copyFrom 62 rfl) rfl 1 rfl ?_
  refine g_getI hX (dc_X10_copyFrom 63 rfl) fl_X10_56 (by decide) rfl (ha1 0 _ rfl) ?_
  refine g_putI (raw := false) hX (dc_X10_copyFrom 64 rfl) fl_X10_56 (by decide) ⟨rfl, rfl⟩ ⟨rfl, rfl⟩ (ha0 0 _ rfl) ?_
  refine g_aload_n hX (dc_X10_copyFrom 65 rfl) rfl 0 rfl ?_
  refine g_aload_n hX (dc_X10_copyFrom 66 rfl) rfl 1 rfl ?_
  refine g_getI hX (dc_X10_copyFrom 67 rfl) fl_X10_39 (by decide) rfl (ha1 0 _ rfl) ?_
  refine g_putI (raw := false) hX (dc_X10_copyFrom 68 rfl) fl_X10_39 (by decide) ⟨rfl, rfl⟩ ⟨rfl, rfl⟩ (ha0 0 _ rfl) ?_
  refine g_aload_n hX (dc_X10_copyFrom 69 rfl) rfl 0 rfl ?_
  refine g_aload_n hX (dc_X10_copyFrom 70 rfl) rfl 1 rfl ?_
  refine g_getI hX (dc_X10_copyFrom 71 rfl) fl_X10_72 (by decide) rfl (ha1 0 _ rfl) ?_
  refine g_putI (raw := false) hX (dc_X10_copyFrom 72 rfl) fl_X10_72 (by decide) ⟨rfl, rfl⟩ ⟨rfl, rfl⟩ (ha0 0 _ rfl) ?_
  refine g_widen (u' := 84) (v' := 462) (by decide) (by decide) ?_
  exact g_sub [] rfl (c_X10_copyFrom_141 hX hO hal hΩ a0 a1 (wI (wI (wI σ a0 8 (sI σ a1 8)) a0 9 (sI (wI σ a0 8 (sI σ a1 8)) a1 9)) a0 10 (sI (wI (wI σ a0 8 (sI σ a1 8)) a0 9 (sI (wI σ a0 8 (sI σ a1 8)) a1 9)) a1 10)) ha0 ha1)
def b_X10_copyFrom_87 (a0 : Nat) (a1 : Nat)    (σ : MS) : Option (MS) := (b_X10_copyFrom_117 a0 a1 (wW (wW σ (a0 + 19) (va_cpy (sI σ (a1 + 19)) (sI σ (a0 + 19)) (ix (0 : Int32)) (ix (0 : Int32)) (ix (10 : Int32)))) (a0 + 20) (va_cpy (sI (wW σ (a0 + 19) (va_cpy (sI σ (a1 + 19)) (sI σ (a0 + 19)) (ix (0 : Int32)) (ix (0 : Int32)) (ix (10 : Int32)))) (a1 + 20)) (sI (wW σ (a0 + 19) (va_cpy (sI σ (a1 + 19)) (sI σ (a0 + 19)) (ix (0 : Int32)) (ix (0 : Int32)) (ix (10 : Int32)))) (a0 + 20)) (ix (0 : Int32)) (ix (0 : Int32)) (ix (10 : Int32)))))
set_option maxHeartbeats 4000000 in
set_option maxRecDepth 20000 in
theorem c_X10_copyFrom_87 {X : CX} {Ω : OM} (hX : CF X Ω RX10 cX10_copyFrom 3 none rm_X10_copyFrom) (hO : OKO Ω) (hal : oAl Ω) (hΩ : oSH Ω = SHX) (a0 : Nat) (a1 : Nat)     (σ : MS) (ha0 : tRt Ω σ a0 shWorld) (ha1 : tRt Ω σ a1 shWorld) : GE X Ω 3 84 462 (emWV) 84 462 87 [(0, .ref a0), (1, .ref a1)] [] σ (b_X10_copyFrom_87 a0 a1 σ) := by
  unfold b_X10_copyFrom_87
  refine g_aload_n hX (dc_X10_copyFrom 45 rfl) rfl 1 rfl ?_
  refine g_getF (q := (a1 + 19)) hX (dc_X10_copyFrom 46 rfl) fl_X10_33 (by decide) rfl (ha1 0 _ rfl) rfl ?_
  refine g_iconst (w := (0 : Int32)) hX (dc_X10_copyFrom 47 rfl) (by decide) ?_
  refine g_aload_n hX (dc_X10_copyFrom 48 rfl) rfl 0 rfl ?_
  refine g_getF (q := (a0 + 19)) hX (dc_X10_copyFrom 49 rfl) fl_X10_33 (by decide) rfl (ha0 0 _ rfl) rfl ?_
  refine g_iconst (w := (0 : Int32)) hX (dc_X10_copyFrom 50 rfl) (by decide) ?_
  refine g_bipush (w := (10 : Int32)) hX (dc_X10_copyFrom 51 rfl) (by decide) ?_
  refine g_copy hX (dc_X10_copyFrom 52 rfl) ma_X10_66 (ha1 19 _ rfl) (ha0 19 _ rfl) (by decide) (by decide) (by decide) (Nat.le_of_ble_eq_true rfl) ?_
  refine g_aload_n hX (dc_X10_copyFrom 53 rfl) rfl 1 rfl ?_
  refine g_getF (q := (a1 + 20)) hX (dc_X10_copyFrom 54 rfl) fl_X10_36 (by decide) rfl (ha1 0 _ rfl) rfl ?_
  refine g_iconst (w := (0 : Int32)) hX (dc_X10_copyFrom 55 rfl) (by decide) ?_
  refine g_aload_n hX (dc_X10_copyFrom 56 rfl) rfl 0 rfl ?_
  refine g_getF (q := (a0 + 20)) hX (dc_X10_copyFrom 57 rfl) fl_X10_36 (by decide) rfl (ha0 0 _ rfl) rfl ?_
  refine g_iconst (w := (0 : Int32)) hX (dc_X10_copyFrom 58 rfl) (by decide) ?_
  refine g_bipush (w := (10 : Int32)) hX (dc_X10_copyFrom 59 rfl) (by decide) ?_
  refine g_copy hX (dc_X10_copyFrom 60 rfl) ma_X10_66 (ha1 20 _ rfl) (ha0 20 _ rfl) (by decide) (by decide) (by decide) (Nat.le_of_ble_eq_true rfl) ?_
  refine g_widen (u' := 84) (v' := 462) (by decide) (by decide) ?_
  exact g_sub [0, 1] rfl (c_X10_copyFrom_117 hX hO hal hΩ a0 a1 (wW (wW σ (a0 + 19) (va_cpy (sI σ (a1 + 19)) (sI σ (a0 + 19)) (ix (0 : Int32)) (ix (0 : Int32)) (ix (10 : Int32)))) (a0 + 20) (va_cpy (sI (wW σ (a0 + 19) (va_cpy (sI σ (a1 + 19)) (sI σ (a0 + 19)) (ix (0 : Int32)) (ix (0 : Int32)) (ix (10 : Int32)))) (a1 + 20)) (sI (wW σ (a0 + 19) (va_cpy (sI σ (a1 + 19)) (sI σ (a0 + 19)) (ix (0 : Int32)) (ix (0 : Int32)) (ix (10 : Int32)))) (a0 + 20)) (ix (0 : Int32)) (ix (0 : Int32)) (ix (10 : Int32)))) ha0 ha1)
def b_X10_copyFrom_50 (a0 : Nat) (a1 : Nat) (k24 : Int32 → MS → Option (MS))  (y2 : Int32) (σ : MS) : Option (MS) := (k24 ((y2 + (1 : Int32))) σ)
set_option maxHeartbeats 4000000 in
set_option maxRecDepth 20000 in
theorem c_X10_copyFrom_50 {X : CX} {Ω : OM} (hX : CF X Ω RX10 cX10_copyFrom 3 none rm_X10_copyFrom) (hO : OKO Ω) (hal : oAl Ω) (hΩ : oSH Ω = SHX) (a0 : Nat) (a1 : Nat)  (n : Nat) (k24 : Int32 → MS → Option (MS)) (hk24 : ∀ (u v : Nat) (y2 : Int32) (σ : MS) (ha0 : tRt Ω σ a0 shWorld) (ha1 : tRt Ω σ a1 shWorld), u + 4 * n ≤ 84 → v + 22 * n ≤ 462 → GE X Ω 3 84 462 (emWV) u v 24 [(0, .ref a0), (1, .ref a1), (2, .int y2)] [] σ (k24 y2 σ)) (u v : Nat) (hu : u + 4 * n ≤ 84) (hv : v + 22 * n ≤ 462) (y2 : Int32) (σ : MS) (ha0 : tRt Ω σ a0 shWorld) (ha1 : tRt Ω σ a1 shWorld) : GE X Ω 3 84 462 (emWV) u v 50 [(0, .ref a0), (1, .ref a1), (2, .int y2)] [] σ (b_X10_copyFrom_50 a0 a1 k24 y2 σ) := by
  unfold b_X10_copyFrom_50
  refine g_iinc (w := (y2 + (1 : Int32))) (L' := [(2, .int (y2 + (1 : Int32))), (0, .ref a0), (1, .ref a1)]) hX (dc_X10_copyFrom 27 rfl) 2 rfl rfl (by decide) rfl ?_
  refine g_goto (tgt := 24) hX (dc_X10_copyFrom 28 rfl) (by decide) ?_
  exact g_sub [1, 2, 0] rfl (hk24 u v ((y2 + (1 : Int32))) σ ha0 ha1 hu hv)
def b_X10_copyFrom_24 (a0 : Nat) (a1 : Nat)  : Nat → Int32 → MS → Option (MS)
  | 0, _, _ => none
  | n + 1, y2, σ => (if (20 : Int32) ≤ y2 then (b_X10_copyFrom_87 a0 a1 (wW (wI (wI σ a0 3 (sI σ a1 3)) a0 4 (sI (wI σ a0 3 (sI σ a1 3)) a1 4)) (a0 + 18) (va_cpy (sI (wI (wI σ a0 3 (sI σ a1 3)) a0 4 (sI (wI σ a0 3 (sI σ a1 3)) a1 4)) (a1 + 18)) (sI (wI (wI σ a0 3 (sI σ a1 3)) a0 4 (sI (wI σ a0 3 (sI σ a1 3)) a1 4)) (a0 + 18)) (ix (0 : Int32)) (ix (0 : Int32)) (ix (10 : Int32))))) else chk (inb y2 20) ((onr (sR σ (a1 + 17) (ix y2)) ((b_X10_copyFrom_50 a0 a1 (b_X10_copyFrom_24 a0 a1 n) (y2) σ)) (fun b17 => @chk (dRt σ b17 shState) (dec_dRt σ b17 shState) _ (chk (inb y2 20) ((onr (sR σ (a1 + 17) (ix y2)) (none) (fun b21 => @chk (dRt σ b21 shState) (dec_dRt σ b21 shState) _ ((f_X10_keepPast a0 y2 b21 σ).bind (fun r24 => @chk (dRt r24 a0 shWorld) (dec_dRt r24 a0 shWorld) _ (@chk (dRt r24 a1 shWorld) (dec_dRt r24 a1 shWorld) _ ((b_X10_copyFrom_50 a0 a1 (b_X10_copyFrom_24 a0 a1 n) (y2) r24)))))))))))))
set_option maxHeartbeats 4000000 in
set_option maxRecDepth 20000 in
theorem c_X10_copyFrom_24 {X : CX} {Ω : OM} (hX : CF X Ω RX10 cX10_copyFrom 3 none rm_X10_copyFrom) (hO : OKO Ω) (hal : oAl Ω) (hΩ : oSH Ω = SHX) (a0 : Nat) (a1 : Nat)   : ∀ (n u v : Nat) (hu : u + 4 * n ≤ 84) (hv : v + 22 * n ≤ 462) (y2 : Int32) (σ : MS) (ha0 : tRt Ω σ a0 shWorld) (ha1 : tRt Ω σ a1 shWorld), GE X Ω 3 84 462 (emWV) u v 24 [(0, .ref a0), (1, .ref a1), (2, .int y2)] [] σ (b_X10_copyFrom_24 a0 a1 n y2 σ)
  | 0, _, _, _, _, _, _, _, _ => g_none
  | n + 1, u, v, hu, hv, y2, σ, ha0, ha1 => by
    have hk24 := fun (u v : Nat) (y2 : Int32) (σ : MS) (ha0 : tRt Ω σ a0 shWorld) (ha1 : tRt Ω σ a1 shWorld) (hu : u + 4 * n ≤ 84) (hv : v + 22 * n ≤ 462) => c_X10_copyFrom_24 hX hO hal hΩ a0 a1 n u v hu hv y2 σ ha0 ha1
    unfold b_X10_copyFrom_24
    refine g_iload_n hX (dc_X10_copyFrom 12 rfl) rfl 2 rfl ?_
    refine g_bipush (w := (20 : Int32)) hX (dc_X10_copyFrom 13 rfl) (by decide) ?_
    refine g_icmp_ge (tgt := 56) hX (dc_X10_copyFrom 14 rfl) (by decide) (fun h15 => ?_) (fun h15 => ?_)
    · refine g_aload_n hX (dc_X10_copyFrom 29 rfl) rfl 0 rfl ?_
      refine g_aload_n hX (dc_X10_copyFrom 30 rfl) rfl 1 rfl ?_
      refine g_getI hX (dc_X10_copyFrom 31 rfl) fl_X10_63 (by decide) rfl (ha1 0 _ rfl) ?_
      refine g_putI (raw := false) hX (dc_X10_copyFrom 32 rfl) fl_X10_63 (by decide) ⟨rfl, rfl⟩ ⟨rfl, rfl⟩ (ha0 0 _ rfl) ?_
      refine g_aload_n hX (dc_X10_copyFrom 33 rfl) rfl 0 rfl ?_
      refine g_aload_n hX (dc_X10_copyFrom 34 rfl) rfl 1 rfl ?_
      refine g_getI hX (dc_X10_copyFrom 35 rfl) fl_X10_53 (by decide) rfl (ha1 0 _ rfl) ?_
      refine g_putI (raw := false) hX (dc_X10_copyFrom 36 rfl) fl_X10_53 (by decide) ⟨rfl, rfl⟩ ⟨rfl, rfl⟩ (ha0 0 _ rfl) ?_
      refine g_aload_n hX (dc_X10_copyFrom 37 rfl) rfl 1 rfl ?_
      refine g_getF (q := (a1 + 18)) hX (dc_X10_copyFrom 38 rfl) fl_X10_29 (by decide) rfl (ha1 0 _ rfl) rfl ?_
      refine g_iconst (w := (0 : Int32)) hX (dc_X10_copyFrom 39 rfl) (by decide) ?_
      refine g_aload_n hX (dc_X10_copyFrom 40 rfl) rfl 0 rfl ?_
      refine g_getF (q := (a0 + 18)) hX (dc_X10_copyFrom 41 rfl) fl_X10_29 (by decide) rfl (ha0 0 _ rfl) rfl ?_
      refine g_iconst (w := (0 : Int32)) hX (dc_X10_copyFrom 42 rfl) (by decide) ?_
      refine g_bipush (w := (10 : Int32)) hX (dc_X10_copyFrom 43 rfl) (by decide) ?_
      refine g_copy hX (dc_X10_copyFrom 44 rfl) ma_X10_66 (ha1 18 _ rfl) (ha0 18 _ rfl) (by decide) (by decide) (by decide) (Nat.le_of_ble_eq_true rfl) ?_
      refine g_widen (u' := 84) (v' := 462) (by omega) (by omega) ?_
      exact g_sub [0, 1] rfl (c_X10_copyFrom_87 hX hO hal hΩ a0 a1 (wW (wI (wI σ a0 3 (sI σ a1 3)) a0 4 (sI (wI σ a0 3 (sI σ a1 3)) a1 4)) (a0 + 18) (va_cpy (sI (wI (wI σ a0 3 (sI σ a1 3)) a0 4 (sI (wI σ a0 3 (sI σ a1 3)) a1 4)) (a1 + 18)) (sI (wI (wI σ a0 3 (sI σ a1 3)) a0 4 (sI (wI σ a0 3 (sI σ a1 3)) a1 4)) (a0 + 18)) (ix (0 : Int32)) (ix (0 : Int32)) (ix (10 : Int32)))) ha0 ha1)
    · refine g_aload_n hX (dc_X10_copyFrom 15 rfl) rfl 1 rfl ?_
      refine g_getF (q := (a1 + 17)) hX (dc_X10_copyFrom 16 rfl) fl_X10_25 (by decide) rfl (ha1 0 _ rfl) rfl ?_
      refine g_iload_n hX (dc_X10_copyFrom 17 rfl) rfl 2 rfl ?_
      refine g_chk (fun hc16 => ?_)
      refine g_aald hX (dc_X10_copyFrom 18 rfl) (ha1 17 _ rfl) ⟨by decide, by decide⟩ rfl hc16 rfl (fun _ => ?_) (fun b17 hb18 => ?_)
      · refine g_ifnull_N (tgt := 50) hX (dc_X10_copyFrom 19 rfl) (by decide) ?_
        exact g_sub [0, 1, 2] rfl (c_X10_copyFrom_50 hX hO hal hΩ a0 a1 n _ hk24 u v (by omega) (by omega) (y2) σ ha0 ha1)
      · refine g_chkd (fun ho19 => ?_)
        refine g_ifnull_R (tgt := 0) hX (dc_X10_copyFrom 19 rfl) ?_
        refine g_aload_n hX (dc_X10_copyFrom 20 rfl) rfl 0 rfl ?_
        refine g_iload_n hX (dc_X10_copyFrom 21 rfl) rfl 2 rfl ?_
        refine g_aload_n hX (dc_X10_copyFrom 22 rfl) rfl 1 rfl ?_
        refine g_getF (q := (a1 + 17)) hX (dc_X10_copyFrom 23 rfl) fl_X10_25 (by decide) rfl (ha1 0 _ rfl) rfl ?_
        refine g_iload_n hX (dc_X10_copyFrom 24 rfl) rfl 2 rfl ?_
        refine g_chk (fun hc20 => ?_)
        refine g_aald hX (dc_X10_copyFrom 25 rfl) (ha1 17 _ rfl) ⟨by decide, by decide⟩ rfl hc20 rfl (fun _ => ?_) (fun b21 hb22 => ?_)
        · exact g_none
        · refine g_chkd (fun ho23 => ?_)
          refine gVa_WV (As := [.int y2, .ref b21]) (st := []) hX (dc_X10_copyFrom 26 rfl) ml_X10_59 (con_X10_keepPast hO hal hΩ a0 y2 b21 σ ha0 (ho23.t)) (ha0 0 _ rfl) rfl rfl ⟨by decide, by decide⟩ ⟨by show u + 4 ≤ 84; omega, by show v + 22 ≤ 462; omega⟩ (Nat.le_of_ble_eq_true rfl) (fun r24 _ => ?_)
          refine g_chkd (fun hd25 => ?_)
          refine g_chkd (fun hd26 => ?_)
          exact g_sub [0, 1, 2] rfl (c_X10_copyFrom_50 hX hO hal hΩ a0 a1 n _ hk24 (u + 4) (v + 22) (by omega) (by omega) (y2) r24 hd25.t hd26.t)
def b_X10_copyFrom_0 (a0 : Nat) (a1 : Nat)    (σ : MS) : Option (MS) := (f_X3_copyFrom (a0 + 1) (a1 + 1) σ).bind (fun r27 => @chk (dRt r27 a0 shWorld) (dec_dRt r27 a0 shWorld) _ (@chk (dRt r27 a1 shWorld) (dec_dRt r27 a1 shWorld) _ ((f_X8_copyFrom (a0 + 13) (a1 + 13) r27).bind (fun r30 => @chk (dRt r30 a0 shWorld) (dec_dRt r30 a0 shWorld) _ (@chk (dRt r30 a1 shWorld) (dec_dRt r30 a1 shWorld) _ ((b_X10_copyFrom_24 a0 a1 21 ((0 : Int32)) r30)))))))
set_option maxHeartbeats 4000000 in
set_option maxRecDepth 20000 in
theorem c_X10_copyFrom_0 {X : CX} {Ω : OM} (hX : CF X Ω RX10 cX10_copyFrom 3 none rm_X10_copyFrom) (hO : OKO Ω) (hal : oAl Ω) (hΩ : oSH Ω = SHX) (a0 : Nat) (a1 : Nat)     (σ : MS) (ha0 : tRt Ω σ a0 shWorld) (ha1 : tRt Ω σ a1 shWorld) : GE X Ω 3 84 462 (emWV) 0 0 0 [(0, .ref a0), (1, .ref a1)] [] σ (b_X10_copyFrom_0 a0 a1 σ) := by
  unfold b_X10_copyFrom_0
  refine g_aload_n hX (dc_X10_copyFrom 0 rfl) rfl 0 rfl ?_
  refine g_getF (q := (a0 + 1)) hX (dc_X10_copyFrom 1 rfl) fl_X10_12 (by decide) rfl (ha0 0 _ rfl) rfl ?_
  refine g_aload_n hX (dc_X10_copyFrom 2 rfl) rfl 1 rfl ?_
  refine g_getF (q := (a1 + 1)) hX (dc_X10_copyFrom 3 rfl) fl_X10_12 (by decide) rfl (ha1 0 _ rfl) rfl ?_
  refine gV_WV (As := [.ref (a1 + 1)]) (st := []) hX (dc_X10_copyFrom 4 rfl) ml_X10_43 (con_X3_copyFrom hO hΩ (a0 + 1) (a1 + 1) σ (tsub ha0 1 (by decide)) (tsub ha1 1 (by decide))) (ha0 1 _ rfl) rfl rfl ⟨by decide, by decide⟩ ⟨rfl, rfl⟩ ⟨by decide, by decide⟩ (Nat.le_of_ble_eq_true rfl) (fun r27 _ => ?_)
  refine g_aload_n hX (dc_X10_copyFrom 5 rfl) rfl 0 rfl ?_
  refine g_chkd (fun hd28 => ?_)
  refine g_getF (q := (a0 + 13)) hX (dc_X10_copyFrom 6 rfl) fl_X10_21 (by decide) rfl (hd28.t 0 _ rfl) rfl ?_
  refine g_aload_n hX (dc_X10_copyFrom 7 rfl) rfl 1 rfl ?_
  refine g_chkd (fun hd29 => ?_)
  refine g_getF (q := (a1 + 13)) hX (dc_X10_copyFrom 8 rfl) fl_X10_21 (by decide) rfl (hd29.t 0 _ rfl) rfl ?_
  refine gV_WV (As := [.ref (a1 + 13)]) (st := []) hX (dc_X10_copyFrom 9 rfl) ml_X10_50 (con_X8_copyFrom hO hΩ (a0 + 13) (a1 + 13) r27 (tsub hd28.t 13 (by decide)) (tsub hd29.t 13 (by decide))) (hd28.t 13 _ rfl) rfl rfl ⟨by decide, by decide⟩ ⟨rfl, rfl⟩ ⟨by decide, by decide⟩ (Nat.le_of_ble_eq_true rfl) (fun r30 _ => ?_)
  refine g_iconst (w := (0 : Int32)) hX (dc_X10_copyFrom 10 rfl) (by decide) ?_
  refine g_istore_n (L' := [(2, .int (0 : Int32)), (0, .ref a0), (1, .ref a1)]) hX (dc_X10_copyFrom 11 rfl) rfl (by decide) rfl ?_
  refine g_chkd (fun hd31 => ?_)
  refine g_chkd (fun hd32 => ?_)
  exact g_sub [1, 2, 0] rfl (c_X10_copyFrom_24 hX hO hal hΩ a0 a1 21 0 0 (by decide) (by decide) ((0 : Int32)) r30 hd31.t hd32.t)
def f_X10_copyFrom (a0 : Nat) (a1 : Nat) (σ : MS) : Option (MS) := b_X10_copyFrom_0 a0 a1  σ
theorem con_X10_copyFrom {Ω : OM} (hO : OKO Ω) (hal : oAl Ω) (hΩ : oSH Ω = SHX) (a0 : Nat) (a1 : Nat) (σ : MS) (ha0 : tRt Ω σ a0 shWorld) (ha1 : tRt Ω σ a1 shWorld) : Con Ω yX10_copyFrom cX10_copyFrom 3 none rm_X10_copyFrom (emWV) [.ref a0, .ref a1] σ (f_X10_copyFrom a0 a1 σ) :=
  con_of hO (by decide +kernel) (Nat.le_of_ble_eq_true rfl) rfl (fun X hX hn => c_X10_copyFrom_0 hX hO hal hΩ a0 a1   σ ha0 ha1)
def it_X10_remember : List (Nat × Instr × Nat × Nat) := [(0, .aload_n 0, 1, 1), (1, .aload_n 0, 1, 2), (2, .getfield 63, 3, 5), (5, .aload_n 0, 1, 6), (6, .getfield 21, 3, 9), (9, .invokevirtual 59, 3, 12), (12, .aload_n 0, 1, 13), (13, .aload_n 0, 1, 14), (14, .getfield 63, 3, 17), (17, .iconst 1, 1, 18), (18, .iadd, 1, 19), (19, .bipush 20, 2, 21), (21, .irem, 1, 22), (22, .putfield 63, 3, 25), (25, .aload_n 0, 1, 26), (26, .bipush 20, 2, 28), (28, .aload_n 0, 1, 29), (29, .getfield 53, 3, 32), (32, .iconst 1, 1, 33), (33, .iadd, 1, 34), (34, .invokestatic 75, 3, 37), (37, .putfield 53, 3, 40), (40, .return_, 1, 41)]
theorem id_X10_remember : ∀ q ∈ it_X10_remember, decode cX10_remember q.1 = .ok (q.2.1, q.2.2.1) ∧ q.1 + q.2.2.1 = q.2.2.2 := by decide +kernel
theorem dc_X10_remember {pc : Nat} {i : Instr} {n pc' : Nat} (j : Nat) (h : it_X10_remember[j]? = some (pc, i, n, pc')) : Dc cX10_remember pc i n pc' := dc_of id_X10_remember j h
abbrev rm_X10_remember : Room := { frames := 3, cells := 4, slots := 22, locals := 104 }
def b_X10_remember_0     (σ : MS) : Option (MS) := (f_X10_keepPast 22 (sI σ 22 3) 35 σ).bind (fun r3 => (f_J9_min_7cf53 (20 : Int32) ((sI (wI r3 22 3 (((sI r3 22 3) + (1 : Int32)) - ((sI r3 22 3) + (1 : Int32)) / (20 : Int32) * (20 : Int32))) 22 4) + (1 : Int32))).bind (fun r4 => some ((wI (wI r3 22 3 (((sI r3 22 3) + (1 : Int32)) - ((sI r3 22 3) + (1 : Int32)) / (20 : Int32) * (20 : Int32))) 22 4 r4))))
set_option maxHeartbeats 4000000 in
set_option maxRecDepth 20000 in
theorem c_X10_remember_0 {X : CX} {Ω : OM} (hX : CF X Ω RX10 cX10_remember 1 none rm_X10_remember) (hO : OKO Ω) (hal : oAl Ω) (hΩ : oSH Ω = SHX)      (σ : MS)  : GE X Ω 1 4 22 (emWV) 0 0 0 [(0, .ref 22)] [] σ (b_X10_remember_0  σ) := by
  unfold b_X10_remember_0
  refine g_aload_n hX (dc_X10_remember 0 rfl) rfl 0 rfl ?_
  refine g_aload_n hX (dc_X10_remember 1 rfl) rfl 0 rfl ?_
  refine g_getI hX (dc_X10_remember 2 rfl) fl_X10_63 (by decide) rfl (stS hΩ 22 rfl) ?_
  refine g_aload_n hX (dc_X10_remember 3 rfl) rfl 0 rfl ?_
  refine g_getF (q := 35) hX (dc_X10_remember 4 rfl) fl_X10_21 (by decide) rfl (stS hΩ 22 rfl) rfl ?_
  refine gVa_WV (As := [.int (sI σ 22 3), .ref 35]) (st := []) hX (dc_X10_remember 5 rfl) ml_X10_59 (con_X10_keepPast hO hal hΩ 22 (sI σ 22 3) 35 σ (stR hΩ 22 (by decide)).t (stR hΩ 35 (by decide)).t) (stS hΩ 22 rfl) rfl rfl ⟨by decide, by decide⟩ ⟨by decide, by decide⟩ (Nat.le_of_ble_eq_true rfl) (fun r3 _ => ?_)
  refine g_aload_n hX (dc_X10_remember 6 rfl) rfl 0 rfl ?_
  refine g_aload_n hX (dc_X10_remember 7 rfl) rfl 0 rfl ?_
  refine g_getI hX (dc_X10_remember 8 rfl) fl_X10_63 (by decide) rfl (stS hΩ 22 rfl) ?_
  refine g_iconst (w := (1 : Int32)) hX (dc_X10_remember 9 rfl) (by decide) ?_
  refine g_iadd hX (dc_X10_remember 10 rfl) ?_
  refine g_bipush (w := (20 : Int32)) hX (dc_X10_remember 11 rfl) (by decide) ?_
  refine g_irem hX (dc_X10_remember 12 rfl) (by decide) ?_
  refine g_putI (raw := false) hX (dc_X10_remember 13 rfl) fl_X10_63 (by decide) ⟨rfl, rfl⟩ ⟨rfl, rfl⟩ (stS hΩ 22 rfl) ?_
  refine g_aload_n hX (dc_X10_remember 14 rfl) rfl 0 rfl ?_
  refine g_bipush (w := (20 : Int32)) hX (dc_X10_remember 15 rfl) (by decide) ?_
  refine g_aload_n hX (dc_X10_remember 16 rfl) rfl 0 rfl ?_
  refine g_getI hX (dc_X10_remember 17 rfl) fl_X10_53 (by decide) rfl (stS hΩ 22 rfl) ?_
  refine g_iconst (w := (1 : Int32)) hX (dc_X10_remember 18 rfl) (by decide) ?_
  refine g_iadd hX (dc_X10_remember 19 rfl) ?_
  refine gS_PI (As := [.int (20 : Int32), .int ((sI (wI r3 22 3 (((sI r3 22 3) + (1 : Int32)) - ((sI r3 22 3) + (1 : Int32)) / (20 : Int32) * (20 : Int32))) 22 4) + (1 : Int32))]) (st := [.ref 22]) hX (dc_X10_remember 20 rfl) ml_X10_75 (con_J9_min_7cf53 hO hΩ (20 : Int32) ((sI (wI r3 22 3 (((sI r3 22 3) + (1 : Int32)) - ((sI r3 22 3) + (1 : Int32)) / (20 : Int32) * (20 : Int32))) 22 4) + (1 : Int32)) (wI r3 22 3 (((sI r3 22 3) + (1 : Int32)) - ((sI r3 22 3) + (1 : Int32)) / (20 : Int32) * (20 : Int32)))) rfl rfl ⟨by decide, by decide⟩ ⟨rfl, rfl⟩ ⟨by decide, by decide⟩ (Nat.le_of_ble_eq_true rfl) (fun r4 _ => ?_)
  refine g_putI (raw := false) hX (dc_X10_remember 21 rfl) fl_X10_53 (by decide) ⟨rfl, rfl⟩ ⟨rfl, rfl⟩ (stS hΩ 22 rfl) ?_
  exact g_vret hX (dc_X10_remember 22 rfl) rfl (by decide) (by decide)
def f_X10_remember  (σ : MS) : Option (MS) := b_X10_remember_0   σ
theorem con_X10_remember {Ω : OM} (hO : OKO Ω) (hal : oAl Ω) (hΩ : oSH Ω = SHX)  (σ : MS)  : Con Ω yX10_remember cX10_remember 1 none rm_X10_remember (emWV) [.ref 22] σ (f_X10_remember  σ) :=
  con_of hO (by decide +kernel) (Nat.le_of_ble_eq_true rfl) rfl (fun X hX hn => c_X10_remember_0 hX hO hal hΩ    σ )
def it_X11_init : List (Nat × Instr × Nat × Nat) := [(0, .aload_n 0, 1, 1), (1, .invokespecial 1, 3, 4), (4, .aload_n 0, 1, 5), (5, .new 7, 3, 8), (8, .dup, 1, 9), (9, .invokespecial 9, 3, 12), (12, .putfield 10, 3, 15), (15, .aload_n 0, 1, 16), (16, .new 16, 3, 19), (19, .dup, 1, 20), (20, .aload_n 0, 1, 21), (21, .getfield 10, 3, 24), (24, .invokespecial 18, 3, 27), (27, .putfield 21, 3, 30), (30, .aload_n 0, 1, 31), (31, .new 25, 3, 34), (34, .dup, 1, 35), (35, .aload_n 0, 1, 36), (36, .getfield 10, 3, 39), (39, .invokespecial 27, 3, 42), (42, .putfield 28, 3, 45), (45, .aload_n 0, 1, 46), (46, .bipush 6, 2, 48), (48, .anewarray 32, 3, 51), (51, .putfield 34, 3, 54), (54, .aload_n 0, 1, 55), (55, .new 38, 3, 58), (58, .dup, 1, 59), (59, .invokespecial 40, 3, 62), (62, .putfield 41, 3, 65), (65, .aload_n 0, 1, 66), (66, .iconst 4, 1, 67), (67, .anewarray 38, 3, 70), (70, .putfield 45, 3, 73), (73, .aload_n 0, 1, 74), (74, .new 49, 3, 77), (77, .dup, 1, 78), (78, .aload_n 0, 1, 79), (79, .getfield 41, 3, 82), (82, .getfield 51, 3, 85), (85, .invokespecial 55, 3, 88), (88, .putfield 58, 3, 91), (91, .aload_n 0, 1, 92), (92, .new 62, 3, 95), (95, .dup, 1, 96), (96, .invokespecial 64, 3, 99), (99, .putfield 65, 3, 102), (102, .aload_n 0, 1, 103), (103, .new 69, 3, 106), (106, .dup, 1, 107), (107, .invokespecial 71, 3, 110), (110, .putfield 72, 3, 113), (113, .aload_n 0, 1, 114), (114, .new 76, 3, 117), (117, .dup, 1, 118), (118, .invokespecial 78, 3, 121), (121, .putfield 79, 3, 124), (124, .aload_n 0, 1, 125), (125, .bipush 42, 2, 127), (127, .newarray .int, 2, 129), (129, .putfield 83, 3, 132), (132, .return_, 1, 133)]
theorem id_X11_init : ∀ q ∈ it_X11_init, decode cX11_init q.1 = .ok (q.2.1, q.2.2.1) ∧ q.1 + q.2.2.1 = q.2.2.2 := by decide +kernel
theorem dc_X11_init {pc : Nat} {i : Instr} {n pc' : Nat} (j : Nat) (h : it_X11_init[j]? = some (pc, i, n, pc')) : Dc cX11_init pc i n pc' := dc_of id_X11_init j h
abbrev rm_X11_init : Room := { frames := 4, cells := 55, slots := 1464, locals := 84 }
def b_X11_init_0 (a0 : Nat)    (σ : MS) : Option (MS) := chk (sN σ < 1000000) ((f_X9_init (sN σ) (al σ (30 + 9) 0)).bind (fun r48 => @chk (tfd r48 a0 (30 + 11, 0)) (dec_tfd r48 a0 (30 + 11, 0)) _ (chk (sN r48 < 1000000) ((onr (sR (al (wR r48 a0 0 (some (sN σ))) (30 + 2) 0) a0 0) none (fun b52 => @chk (tfd (al (wR r48 a0 0 (some (sN σ))) (30 + 2) 0) b52 (10 + 9, 0)) (dec_tfd (al (wR r48 a0 0 (some (sN σ))) (30 + 2) 0) b52 (10 + 9, 0)) _ ((f_X2_init (sN r48) b52 (al (wR r48 a0 0 (some (sN σ))) (30 + 2) 0)).bind (fun r55 => @chk (tfd r55 a0 (30 + 11, 0)) (dec_tfd r55 a0 (30 + 11, 0)) _ (chk (sN r55 < 1000000) ((onr (sR (al (wR r55 a0 1 (some (sN r48))) (30 + 7) 0) a0 0) none (fun b59 => @chk (tfd (al (wR r55 a0 1 (some (sN r48))) (30 + 7) 0) b59 (10 + 9, 0)) (dec_tfd (al (wR r55 a0 1 (some (sN r48))) (30 + 7) 0) b59 (10 + 9, 0)) _ ((f_X7_init (sN r55) b59 (al (wR r55 a0 1 (some (sN r48))) (30 + 7) 0)).bind (fun r62 => @chk (tfd r62 a0 (30 + 11, 0)) (dec_tfd r62 a0 (30 + 11, 0)) _ (chk (sN r62 < 1000000) (chk (sN r62 + 1 < 1000000) ((f_X10_init (sN r62 + 1) (al (wR (al (wR r62 a0 2 (some (sN r55))) 5 6) a0 3 (some (sN r62))) (30 + 10) 0)).bind (fun r67 => @chk (tfd r67 a0 (30 + 11, 0)) (dec_tfd r67 a0 (30 + 11, 0)) _ (chk (sN r67 < 1000000) (chk (sN r67 + 1 < 1000000) ((onr (sR (al (wR (al (wR r67 a0 4 (some (sN r62 + 1))) 6 4) a0 5 (some (sN r67))) (30 + 1) 0) a0 4) none (fun b72 => @chk (tfd (al (wR (al (wR r67 a0 4 (some (sN r62 + 1))) 6 4) a0 5 (some (sN r67))) (30 + 1) 0) b72 (10 + 10, 0)) (dec_tfd (al (wR (al (wR r67 a0 4 (some (sN r62 + 1))) 6 4) a0 5 (some (sN r67))) (30 + 1) 0) b72 (10 + 10, 0)) _ ((f_X1_init (sN r67 + 1) (b72 + 1) (al (wR (al (wR r67 a0 4 (some (sN r62 + 1))) 6 4) a0 5 (some (sN r67))) (30 + 1) 0)).bind (fun r75 => @chk (tfd r75 a0 (30 + 11, 0)) (dec_tfd r75 a0 (30 + 11, 0)) _ (chk (sN r75 < 1000000) ((f_X8_init (sN r75) (al (wR r75 a0 6 (some (sN r67 + 1))) (30 + 8) 0)).bind (fun r79 => @chk (tfd r79 a0 (30 + 11, 0)) (dec_tfd r79 a0 (30 + 11, 0)) _ (chk (sN r79 < 1000000) ((f_X5_init (sN r79) (al (wR r79 a0 7 (some (sN r75))) (30 + 5) 0)).bind (fun r83 => @chk (tfd r83 a0 (30 + 11, 0)) (dec_tfd r83 a0 (30 + 11, 0)) _ (chk (sN r83 < 1000000) ((f_X0_init (sN r83) (al (wR r83 a0 8 (some (sN r79))) (30 + 0) 0)).bind (fun r87 => @chk (tfd r87 a0 (30 + 11, 0)) (dec_tfd r87 a0 (30 + 11, 0)) _ (chk (sN r87 < 1000000) (@chk (finOK (wR (al (wR r87 a0 9 (some (sN r83))) 0 42) a0 10 (some (sN r87))) a0 11) (dec_finOK (wR (al (wR r87 a0 9 (some (sN r83))) 0 42) a0 10 (some (sN r87))) a0 11) _ (some (fin (wR (al (wR r87 a0 9 (some (sN r83))) 0 42) a0 10 (some (sN r87))) a0 11))))))))))))))))))))))))))))))))))))))
set_option maxHeartbeats 4000000 in
set_option maxRecDepth 20000 in
theorem c_X11_init_0 {X : CX} {Ω : OM} (hX : CF X Ω RX11 cX11_init 1 none rm_X11_init) (hO : OKO Ω) (hal : oAl Ω) (hn : X.2.2.2.2.2.2.2.2.1.name = "<init>") (a0 : Nat) (hs0 : (oSH Ω).length ≤ a0)    (σ : MS) (ha0 : tf Ω σ a0 (30 + 11, 0)) : GE X Ω 1 55 1464 (emWV) 0 0 0 [(0, .ref a0)] [] σ (b_X11_init_0 a0 σ) := by
  unfold b_X11_init_0
  refine g_aload_n hX (dc_X11_init 0 rfl) rfl 0 rfl ?_
  refine g_objinit hX (dc_X11_init 1 rfl) mo_X11_1 wo_i wo_c (by decide) (by decide) (Nat.le_of_ble_eq_true rfl) ?_
  refine g_aload_n hX (dc_X11_init 2 rfl) rfl 0 rfl ?_
  refine g_chk (fun hl46 => ?_)
  refine g_new (ci := 9) hX hal hl46 (dc_X11_init 3 rfl) wl_X11_7 wb_X9 wn_X9 (by decide) (by decide) (by decide) (fun hq47 => ?_)
  refine g_dup hX (dc_X11_init 4 rfl) rfl ?_
  refine gN_WV (As := []) (st := [.ref (sN σ), .ref a0]) hX (dc_X11_init 5 rfl) (by decide +kernel : Cond.methodLinkNest RX11 9 yX9_init "StampDuchy" ∈ nestL) ⟨wn_X9, wc_X9_init, by decide, by decide, by decide +kernel⟩ wi_X9_init rfl (con_X9_init hO hal (sN σ) (al σ (30 + 9) 0) tf_new hq47) rfl rfl ⟨by decide, by decide⟩ ⟨by decide, by decide⟩ (Nat.le_of_ble_eq_true rfl) (fun r48 _ => ?_)
  refine g_chkd (fun ht49 => ?_)
  refine g_putN (raw := true) (r := (some (sN σ))) hX (dc_X11_init 6 rfl) fl_X11_10 (by decide) (Or.inr ⟨rfl, rfl⟩) (fun w => by cases w <;> exact ⟨rfl, rfl⟩) ht49.t (Or.inr ⟨hn, rfl, rfl⟩) ?_
  refine g_aload_n hX (dc_X11_init 7 rfl) rfl 0 rfl ?_
  refine g_chk (fun hl50 => ?_)
  refine g_new (ci := 2) hX hal hl50 (dc_X11_init 8 rfl) wl_X11_16 wb_X2 wn_X2 (by decide) (by decide) (by decide) (fun hq51 => ?_)
  refine g_dup hX (dc_X11_init 9 rfl) rfl ?_
  refine g_aload_n hX (dc_X11_init 10 rfl) rfl 0 rfl ?_
  refine g_getN (raw := true) hX (dc_X11_init 11 rfl) fl_X11_10 (by decide) (Or.inr ⟨rfl, rfl⟩) (tf_al ht49.t) (fun _ => ?_) (fun b52 hb53 => ?_)
  · exact g_none
  · refine g_chkd (fun ho54 => ?_)
    refine gI_WV (As := [.ref b52]) (st := [.ref (sN r48), .ref a0]) hX (dc_X11_init 12 rfl) ml_X11_18 wi_X2_init rfl (con_X2_init hO hal (sN r48) b52 (al (wR r48 a0 0 (some (sN σ))) (30 + 2) 0) tf_new hq51) rfl rfl ⟨by decide, by decide⟩ ⟨by decide, by decide⟩ (Nat.le_of_ble_eq_true rfl) (fun r55 _ => ?_)
    refine g_chkd (fun ht56 => ?_)
    refine g_putN (raw := true) (r := (some (sN r48))) hX (dc_X11_init 13 rfl) fl_X11_21 (by decide) (Or.inr ⟨rfl, rfl⟩) (fun w => by cases w <;> exact ⟨rfl, rfl⟩) ht56.t (Or.inr ⟨hn, rfl, rfl⟩) ?_
    refine g_aload_n hX (dc_X11_init 14 rfl) rfl 0 rfl ?_
    refine g_chk (fun hl57 => ?_)
    refine g_new (ci := 7) hX hal hl57 (dc_X11_init 15 rfl) wl_X11_25 wb_X7 wn_X7 (by decide) (by decide) (by decide) (fun hq58 => ?_)
    refine g_dup hX (dc_X11_init 16 rfl) rfl ?_
    refine g_aload_n hX (dc_X11_init 17 rfl) rfl 0 rfl ?_
    refine g_getN (raw := true) hX (dc_X11_init 18 rfl) fl_X11_10 (by decide) (Or.inr ⟨rfl, rfl⟩) (tf_al ht56.t) (fun _ => ?_) (fun b59 hb60 => ?_)
    · exact g_none
    · refine g_chkd (fun ho61 => ?_)
      refine gI_WV (As := [.ref b59]) (st := [.ref (sN r55), .ref a0]) hX (dc_X11_init 19 rfl) ml_X11_27 wi_X7_init rfl (con_X7_init hO hal (sN r55) b59 (al (wR r55 a0 1 (some (sN r48))) (30 + 7) 0) tf_new hq58) rfl rfl ⟨by decide, by decide⟩ ⟨by decide, by decide⟩ (Nat.le_of_ble_eq_true rfl) (fun r62 _ => ?_)
      refine g_chkd (fun ht63 => ?_)
      refine g_putN (raw := true) (r := (some (sN r55))) hX (dc_X11_init 20 rfl) fl_X11_28 (by decide) (Or.inr ⟨rfl, rfl⟩) (fun w => by cases w <;> exact ⟨rfl, rfl⟩) ht63.t (Or.inr ⟨hn, rfl, rfl⟩) ?_
      refine g_aload_n hX (dc_X11_init 21 rfl) rfl 0 rfl ?_
      refine g_bipush (w := (6 : Int32)) hX (dc_X11_init 22 rfl) (by decide) ?_
      refine g_chk (fun hl64 => ?_)
      refine g_anew (N := 6) (kd := 5) hX hal hl64 (dc_X11_init 23 rfl) wl_X11_32 (Or.inr (Or.inl ⟨rfl, rfl⟩)) (by decide) (by decide) (by decide) (by decide) (by decide) ?_
      refine g_putN (raw := true) (r := (some (sN r62))) hX (dc_X11_init 24 rfl) fl_X11_34 (by decide) (Or.inr ⟨rfl, rfl⟩) (fun w => by cases w <;> exact ⟨rfl, rfl⟩) (tf_al ht63.t) (Or.inr ⟨hn, rfl, rfl⟩) ?_
      refine g_aload_n hX (dc_X11_init 25 rfl) rfl 0 rfl ?_
      refine g_chk (fun hl65 => ?_)
      refine g_new (ci := 10) hX hal hl65 (dc_X11_init 26 rfl) wl_X11_38 wb_X10 wn_X10 (by decide) (by decide) (by decide) (fun hq66 => ?_)
      refine g_dup hX (dc_X11_init 27 rfl) rfl ?_
      refine gN_WV (As := []) (st := [.ref (sN r62 + 1), .ref a0]) hX (dc_X11_init 28 rfl) (by decide +kernel : Cond.methodLinkNest RX11 40 yX10_init "StampDuchy" ∈ nestL) ⟨wn_X10, wc_X10_init, by decide, by decide, by decide +kernel⟩ wi_X10_init rfl (con_X10_init hO hal (sN r62 + 1) (al (wR (al (wR r62 a0 2 (some (sN r55))) 5 6) a0 3 (some (sN r62))) (30 + 10) 0) tf_new hq66) rfl rfl ⟨by decide, by decide⟩ ⟨by decide, by decide⟩ (Nat.le_of_ble_eq_true rfl) (fun r67 _ => ?_)
      refine g_chkd (fun ht68 => ?_)
      refine g_putN (raw := true) (r := (some (sN r62 + 1))) hX (dc_X11_init 29 rfl) fl_X11_41 (by decide) (Or.inr ⟨rfl, rfl⟩) (fun w => by cases w <;> exact ⟨rfl, rfl⟩) ht68.t (Or.inr ⟨hn, rfl, rfl⟩) ?_
      refine g_aload_n hX (dc_X11_init 30 rfl) rfl 0 rfl ?_
      refine g_iconst (w := (4 : Int32)) hX (dc_X11_init 31 rfl) (by decide) ?_
      refine g_chk (fun hl69 => ?_)
      refine g_anew (N := 4) (kd := 6) hX hal hl69 (dc_X11_init 32 rfl) wl_X11_38 (Or.inr (Or.inr ⟨rfl, rfl⟩)) (by decide) (by decide) (by decide) (by decide) (by decide) ?_
      refine g_putN (raw := true) (r := (some (sN r67))) hX (dc_X11_init 33 rfl) fl_X11_45 (by decide) (Or.inr ⟨rfl, rfl⟩) (fun w => by cases w <;> exact ⟨rfl, rfl⟩) (tf_al ht68.t) (Or.inr ⟨hn, rfl, rfl⟩) ?_
      refine g_aload_n hX (dc_X11_init 34 rfl) rfl 0 rfl ?_
      refine g_chk (fun hl70 => ?_)
      refine g_new (ci := 1) hX hal hl70 (dc_X11_init 35 rfl) wl_X11_49 wb_X1 wn_X1 (by decide) (by decide) (by decide) (fun hq71 => ?_)
      refine g_dup hX (dc_X11_init 36 rfl) rfl ?_
      refine g_aload_n hX (dc_X11_init 37 rfl) rfl 0 rfl ?_
      refine g_getN (raw := true) hX (dc_X11_init 38 rfl) fl_X11_41 (by decide) (Or.inr ⟨rfl, rfl⟩) (tf_al (tf_al ht68.t)) (fun _ => ?_) (fun b72 hb73 => ?_)
      · exact g_none
      · refine g_chkd (fun ho74 => ?_)
        refine g_getF (q := (b72 + 1)) hX (dc_X11_init 39 rfl) fl_X11_51 (by decide) rfl ho74.t rfl ?_
        refine gI_WV (As := [.ref (b72 + 1)]) (st := [.ref (sN r67 + 1), .ref a0]) hX (dc_X11_init 40 rfl) ml_X11_55 wi_X1_init rfl (con_X1_init hO hal (sN r67 + 1) (b72 + 1) (al (wR (al (wR r67 a0 4 (some (sN r62 + 1))) 6 4) a0 5 (some (sN r67))) (30 + 1) 0) tf_new hq71) rfl rfl ⟨by decide, by decide⟩ ⟨by decide, by decide⟩ (Nat.le_of_ble_eq_true rfl) (fun r75 _ => ?_)
        refine g_chkd (fun ht76 => ?_)
        refine g_putN (raw := true) (r := (some (sN r67 + 1))) hX (dc_X11_init 41 rfl) fl_X11_58 (by decide) (Or.inr ⟨rfl, rfl⟩) (fun w => by cases w <;> exact ⟨rfl, rfl⟩) ht76.t (Or.inr ⟨hn, rfl, rfl⟩) ?_
        refine g_aload_n hX (dc_X11_init 42 rfl) rfl 0 rfl ?_
        refine g_chk (fun hl77 => ?_)
        refine g_new (ci := 8) hX hal hl77 (dc_X11_init 43 rfl) wl_X11_62 wb_X8 wn_X8 (by decide) (by decide) (by decide) (fun hq78 => ?_)
        refine g_dup hX (dc_X11_init 44 rfl) rfl ?_
        refine gI_WV (As := []) (st := [.ref (sN r75), .ref a0]) hX (dc_X11_init 45 rfl) ml_X11_64 wi_X8_init rfl (con_X8_init hO hal (sN r75) (al (wR r75 a0 6 (some (sN r67 + 1))) (30 + 8) 0) tf_new hq78) rfl rfl ⟨by decide, by decide⟩ ⟨by decide, by decide⟩ (Nat.le_of_ble_eq_true rfl) (fun r79 _ => ?_)
        refine g_chkd (fun ht80 => ?_)
        refine g_putN (raw := true) (r := (some (sN r75))) hX (dc_X11_init 46 rfl) fl_X11_65 (by decide) (Or.inr ⟨rfl, rfl⟩) (fun w => by cases w <;> exact ⟨rfl, rfl⟩) ht80.t (Or.inr ⟨hn, rfl, rfl⟩) ?_
        refine g_aload_n hX (dc_X11_init 47 rfl) rfl 0 rfl ?_
        refine g_chk (fun hl81 => ?_)
        refine g_new (ci := 5) hX hal hl81 (dc_X11_init 48 rfl) wl_X11_69 wb_X5 wn_X5 (by decide) (by decide) (by decide) (fun hq82 => ?_)
        refine g_dup hX (dc_X11_init 49 rfl) rfl ?_
        refine gN_WV (As := []) (st := [.ref (sN r79), .ref a0]) hX (dc_X11_init 50 rfl) (by decide +kernel : Cond.methodLinkNest RX11 71 yX5_init "StampDuchy" ∈ nestL) ⟨wn_X5, wc_X5_init, by decide, by decide, by decide +kernel⟩ wi_X5_init rfl (con_X5_init hO hal (sN r79) (al (wR r79 a0 7 (some (sN r75))) (30 + 5) 0) tf_new hq82) rfl rfl ⟨by decide, by decide⟩ ⟨by decide, by decide⟩ (Nat.le_of_ble_eq_true rfl) (fun r83 _ => ?_)
        refine g_chkd (fun ht84 => ?_)
        refine g_putN (raw := true) (r := (some (sN r79))) hX (dc_X11_init 51 rfl) fl_X11_72 (by decide) (Or.inr ⟨rfl, rfl⟩) (fun w => by cases w <;> exact ⟨rfl, rfl⟩) ht84.t (Or.inr ⟨hn, rfl, rfl⟩) ?_
        refine g_aload_n hX (dc_X11_init 52 rfl) rfl 0 rfl ?_
        refine g_chk (fun hl85 => ?_)
        refine g_new (ci := 0) hX hal hl85 (dc_X11_init 53 rfl) wl_X11_76 wb_X0 wn_X0 (by decide) (by decide) (by decide) (fun hq86 => ?_)
        refine g_dup hX (dc_X11_init 54 rfl) rfl ?_
        refine gN_WV (As := []) (st := [.ref (sN r83), .ref a0]) hX (dc_X11_init 55 rfl) (by decide +kernel : Cond.methodLinkNest RX11 78 yX0_init "StampDuchy" ∈ nestL) ⟨wn_X0, wc_X0_init, by decide, by decide, by decide +kernel⟩ wi_X0_init rfl (con_X0_init hO hal (sN r83) (al (wR r83 a0 8 (some (sN r79))) (30 + 0) 0) tf_new hq86) rfl rfl ⟨by decide, by decide⟩ ⟨by decide, by decide⟩ (Nat.le_of_ble_eq_true rfl) (fun r87 _ => ?_)
        refine g_chkd (fun ht88 => ?_)
        refine g_putN (raw := true) (r := (some (sN r83))) hX (dc_X11_init 56 rfl) fl_X11_79 (by decide) (Or.inr ⟨rfl, rfl⟩) (fun w => by cases w <;> exact ⟨rfl, rfl⟩) ht88.t (Or.inr ⟨hn, rfl, rfl⟩) ?_
        refine g_aload_n hX (dc_X11_init 57 rfl) rfl 0 rfl ?_
        refine g_bipush (w := (42 : Int32)) hX (dc_X11_init 58 rfl) (by decide) ?_
        refine g_chk (fun hl89 => ?_)
        refine g_newa_int (N := 42) hX hal hl89 (dc_X11_init 59 rfl) wa_int (by decide) (by decide) (by decide) (by decide) (by decide) ?_
        refine g_putN (raw := true) (r := (some (sN r87))) hX (dc_X11_init 60 rfl) fl_X11_83 (by decide) (Or.inr ⟨rfl, rfl⟩) (fun w => by cases w <;> exact ⟨rfl, rfl⟩) (tf_al ht88.t) (Or.inr ⟨hn, rfl, rfl⟩) ?_
        refine g_chkd (fun hf90 => ?_)
        refine g_fin (tf_al ht88.t) (by decide) hf90 hs0 ?_
        exact g_vret hX (dc_X11_init 61 rfl) rfl (by decide) (by decide)
def f_X11_init (a0 : Nat) (σ : MS) : Option (MS) := b_X11_init_0 a0  σ
theorem con_X11_init {Ω : OM} (hO : OKO Ω) (hal : oAl Ω) (a0 : Nat) (σ : MS) (ha0 : tf Ω σ a0 (30 + 11, 0)) (hs0 : (oSH Ω).length ≤ a0) : Con Ω yX11_init cX11_init 1 none rm_X11_init (emWV) [.ref a0] σ (f_X11_init a0 σ) :=
  con_of hO (by decide +kernel) (Nat.le_of_ble_eq_true rfl) rfl (fun X hX hn => c_X11_init_0 hX hO hal hn a0 hs0  σ ha0)
def it_X11_rule : List (Nat × Instr × Nat × Nat) := [(0, .aload_n 0, 1, 1), (1, .getfield 114, 3, 4), (4, .bipush 6, 2, 6), (6, .if_icmp .lt 5, 3, 9), (9, .iconst (-1), 1, 10), (10, .ireturn, 1, 11), (11, .aload_n 0, 1, 12), (12, .getfield 28, 3, 15), (15, .invokevirtual 117, 3, 18), (18, .istore_n 1, 1, 19), (19, .aload_n 0, 1, 20), (20, .getfield 10, 3, 23), (23, .iconst 0, 1, 24), (24, .putfield 95, 3, 27), (27, .iload_n 1, 1, 28), (28, .ifCond .eq 8, 3, 31), (31, .bipush (-2), 2, 33), (33, .iload_n 1, 1, 34), (34, .isub, 1, 35), (35, .ireturn, 1, 36), (36, .aload_n 0, 1, 37), (37, .getfield 34, 3, 40), (40, .aload_n 0, 1, 41), (41, .getfield 114, 3, 44), (44, .new 32, 3, 47), (47, .dup, 1, 48), (48, .aload_n 0, 1, 49), (49, .getfield 28, 3, 52), (52, .getfield 118, 3, 55), (55, .aload_n 0, 1, 56), (56, .getfield 28, 3, 59), (59, .getfield 121, 3, 62), (62, .invokespecial 122, 3, 65), (65, .aastore, 1, 66), (66, .aload_n 0, 1, 67), (67, .dup, 1, 68), (68, .getfield 114, 3, 71), (71, .iconst 1, 1, 72), (72, .iadd, 1, 73), (73, .putfield 114, 3, 76), (76, .aload_n 0, 1, 77), (77, .getfield 114, 3, 80), (80, .iconst 1, 1, 81), (81, .isub, 1, 82), (82, .ireturn, 1, 83)]
theorem id_X11_rule : ∀ q ∈ it_X11_rule, decode cX11_rule q.1 = .ok (q.2.1, q.2.2.1) ∧ q.1 + q.2.2.1 = q.2.2.2 := by decide +kernel
theorem dc_X11_rule {pc : Nat} {i : Instr} {n pc' : Nat} (j : Nat) (h : it_X11_rule[j]? = some (pc, i, n, pc')) : Dc cX11_rule pc i n pc' := dc_of id_X11_rule j h
abbrev rm_X11_rule : Room := { frames := 10, cells := 2, slots := 402, locals := 216 }
def b_X11_rule_76     (σ : MS) : Option (Int32 × MS) := some (((sI σ 0 11) - (1 : Int32)), σ)
set_option maxHeartbeats 4000000 in
set_option maxRecDepth 20000 in
theorem c_X11_rule_76 {X : CX} {Ω : OM} (hX : CF X Ω RX11 cX11_rule 2 (some .int) rm_X11_rule) (hO : OKO Ω) (hal : oAl Ω) (hΩ : oSH Ω = SHX)      (σ : MS)  : GE X Ω 2 2 402 (emWI) 2 402 76 [(0, .ref 0)] [] σ (b_X11_rule_76  σ) := by
  unfold b_X11_rule_76
  refine g_aload_n hX (dc_X11_rule 40 rfl) rfl 0 rfl ?_
  refine g_getI hX (dc_X11_rule 41 rfl) fl_X11_114 (by decide) rfl (stS hΩ 0 rfl) ?_
  refine g_iconst (w := (1 : Int32)) hX (dc_X11_rule 42 rfl) (by decide) ?_
  refine g_isub hX (dc_X11_rule 43 rfl) ?_
  exact g_iret hX (dc_X11_rule 44 rfl) rfl rfl (by decide) (by decide)
def b_X11_rule_0     (σ : MS) : Option (Int32 × MS) := (if (sI σ 0 11) < (6 : Int32) then (f_X7_read σ).bind (fun r10 => (if r10.1 = 0 then chk (sN r10.2 < 1000000) ((f_X6_init (sN r10.2) 19 401 (sI (al (wI r10.2 1 1 (0 : Int32)) (30 + 6) 0) 17 8) (al (wI r10.2 1 1 (0 : Int32)) (30 + 6) 0)).bind (fun r14 => @chk (tfd r14 (sN r10.2) (10 + 6, 0)) (dec_tfd r14 (sN r10.2) (10 + 6, 0)) _ (chk (inb (sI (wI r10.2 1 1 (0 : Int32)) 0 11) 6) ((b_X11_rule_76 (wI (wR r14 21 (ix (sI (wI r10.2 1 1 (0 : Int32)) 0 11)) (some (sN r10.2))) 0 11 ((sI (wR r14 21 (ix (sI (wI r10.2 1 1 (0 : Int32)) 0 11)) (some (sN r10.2))) 0 11) + (1 : Int32)))))))) else some (((-2 : Int32) - r10.1), (wI r10.2 1 1 (0 : Int32))))) else some ((-1 : Int32), σ))
set_option maxHeartbeats 4000000 in
set_option maxRecDepth 20000 in
theorem c_X11_rule_0 {X : CX} {Ω : OM} (hX : CF X Ω RX11 cX11_rule 2 (some .int) rm_X11_rule) (hO : OKO Ω) (hal : oAl Ω) (hΩ : oSH Ω = SHX)      (σ : MS)  : GE X Ω 2 2 402 (emWI) 0 0 0 [(0, .ref 0)] [] σ (b_X11_rule_0  σ) := by
  unfold b_X11_rule_0
  refine g_aload_n hX (dc_X11_rule 0 rfl) rfl 0 rfl ?_
  refine g_getI hX (dc_X11_rule 1 rfl) fl_X11_114 (by decide) rfl (stS hΩ 0 rfl) ?_
  refine g_bipush (w := (6 : Int32)) hX (dc_X11_rule 2 rfl) (by decide) ?_
  refine g_icmp_lt (tgt := 11) hX (dc_X11_rule 3 rfl) (by decide) (fun h9 => ?_) (fun h9 => ?_)
  · refine g_aload_n hX (dc_X11_rule 6 rfl) rfl 0 rfl ?_
    refine g_getF (q := 17) hX (dc_X11_rule 7 rfl) fl_X11_28 (by decide) rfl (stS hΩ 0 rfl) rfl ?_
    refine gV_WI (As := []) (st := []) hX (dc_X11_rule 8 rfl) ml_X11_117 (con_X7_read hO hΩ σ) (stS hΩ 17 rfl) rfl rfl ⟨by decide, by decide⟩ ⟨rfl, rfl⟩ ⟨by decide, by decide⟩ (Nat.le_of_ble_eq_true rfl) (fun r10 _ => ?_)
    refine g_istore_n (L' := [(1, .int r10.1), (0, .ref 0)]) hX (dc_X11_rule 9 rfl) rfl (by decide) rfl ?_
    refine g_aload_n hX (dc_X11_rule 10 rfl) rfl 1 rfl ?_
    refine g_getF (q := 1) hX (dc_X11_rule 11 rfl) fl_X11_10 (by decide) rfl (stS hΩ 0 rfl) rfl ?_
    refine g_iconst (w := (0 : Int32)) hX (dc_X11_rule 12 rfl) (by decide) ?_
    refine g_putI (raw := false) hX (dc_X11_rule 13 rfl) fl_X11_95 (by decide) ⟨rfl, rfl⟩ ⟨rfl, rfl⟩ (stS hΩ 1 rfl) ?_
    refine g_iload_n hX (dc_X11_rule 14 rfl) rfl 0 rfl ?_
    refine g_if_eq (tgt := 36) hX (dc_X11_rule 15 rfl) (by decide) (fun h11 => ?_) (fun h11 => ?_)
    · refine g_aload_n hX (dc_X11_rule 20 rfl) rfl 1 rfl ?_
      refine g_getF (q := 21) hX (dc_X11_rule 21 rfl) fl_X11_34 (by decide) rfl (stS hΩ 0 rfl) rfl ?_
      refine g_aload_n hX (dc_X11_rule 22 rfl) rfl 1 rfl ?_
      refine g_getI hX (dc_X11_rule 23 rfl) fl_X11_114 (by decide) rfl (stS hΩ 0 rfl) ?_
      refine g_chk (fun hl12 => ?_)
      refine g_new (ci := 6) hX hal hl12 (dc_X11_rule 24 rfl) wl_X11_32 wb_X6 wn_X6 (by decide) (by decide) (by decide) (fun hq13 => ?_)
      refine g_dup hX (dc_X11_rule 25 rfl) rfl ?_
      refine g_aload_n hX (dc_X11_rule 26 rfl) rfl 1 rfl ?_
      refine g_getF (q := 17) hX (dc_X11_rule 27 rfl) fl_X11_28 (by decide) rfl (stS hΩ 0 rfl) rfl ?_
      refine g_getF (q := 19) hX (dc_X11_rule 28 rfl) fl_X11_118 (by decide) rfl (stS hΩ 17 rfl) rfl ?_
      refine g_aload_n hX (dc_X11_rule 29 rfl) rfl 1 rfl ?_
      refine g_getF (q := 17) hX (dc_X11_rule 30 rfl) fl_X11_28 (by decide) rfl (stS hΩ 0 rfl) rfl ?_
      refine g_getI hX (dc_X11_rule 31 rfl) fl_X11_121 (by decide) rfl (stS hΩ 17 rfl) ?_
      refine gI_WV (As := [.ref 19, .int (sI (al (wI r10.2 1 1 (0 : Int32)) (30 + 6) 0) 17 8)]) (st := [.ref (sN r10.2), .int (sI (wI r10.2 1 1 (0 : Int32)) 0 11), .ref 21]) hX (dc_X11_rule 32 rfl) ml_X11_122 wi_X6_init rfl (con_X6_init hO hal hΩ (sN r10.2) 19 401 (sI (al (wI r10.2 1 1 (0 : Int32)) (30 + 6) 0) 17 8) (al (wI r10.2 1 1 (0 : Int32)) (30 + 6) 0) tf_new hq13 (by rw [hΩ]; rfl)) rfl rfl ⟨by decide, by decide⟩ ⟨by decide, by decide⟩ (Nat.le_of_ble_eq_true rfl) (fun r14 _ => ?_)
      refine g_chkd (fun ht16 => ?_)
      refine g_chk (fun hc15 => ?_)
      refine g_aast (ci := 6) hX (dc_X11_rule 33 rfl) (stS hΩ 21 rfl) ⟨by decide, by decide⟩ rfl (by decide) ht16.t hc15 rfl ?_
      refine g_aload_n hX (dc_X11_rule 34 rfl) rfl 1 rfl ?_
      refine g_dup hX (dc_X11_rule 35 rfl) rfl ?_
      refine g_getI hX (dc_X11_rule 36 rfl) fl_X11_114 (by decide) rfl (stS hΩ 0 rfl) ?_
      refine g_iconst (w := (1 : Int32)) hX (dc_X11_rule 37 rfl) (by decide) ?_
      refine g_iadd hX (dc_X11_rule 38 rfl) ?_
      refine g_putI (raw := false) hX (dc_X11_rule 39 rfl) fl_X11_114 (by decide) ⟨rfl, rfl⟩ ⟨rfl, rfl⟩ (stS hΩ 0 rfl) ?_
      refine g_widen (u' := 2) (v' := 402) (by decide) (by decide) ?_
      exact g_sub [1] rfl (c_X11_rule_76 hX hO hal hΩ (wI (wR r14 21 (ix (sI (wI r10.2 1 1 (0 : Int32)) 0 11)) (some (sN r10.2))) 0 11 ((sI (wR r14 21 (ix (sI (wI r10.2 1 1 (0 : Int32)) 0 11)) (some (sN r10.2))) 0 11) + (1 : Int32))))
    · refine g_bipush (w := (-2 : Int32)) hX (dc_X11_rule 16 rfl) (by decide) ?_
      refine g_iload_n hX (dc_X11_rule 17 rfl) rfl 0 rfl ?_
      refine g_isub hX (dc_X11_rule 18 rfl) ?_
      exact g_iret hX (dc_X11_rule 19 rfl) rfl rfl (by decide) (by decide)
  · refine g_iconst (w := (-1 : Int32)) hX (dc_X11_rule 4 rfl) (by decide) ?_
    exact g_iret hX (dc_X11_rule 5 rfl) rfl rfl (by decide) (by decide)
def f_X11_rule  (σ : MS) : Option (Int32 × MS) := b_X11_rule_0   σ
theorem con_X11_rule {Ω : OM} (hO : OKO Ω) (hal : oAl Ω) (hΩ : oSH Ω = SHX)  (σ : MS)  : Con Ω yX11_rule cX11_rule 2 (some .int) rm_X11_rule (emWI) [.ref 0] σ (f_X11_rule  σ) :=
  con_of hO (by decide +kernel) (Nat.le_of_ble_eq_true rfl) rfl (fun X hX hn => c_X11_rule_0 hX hO hal hΩ    σ )
def it_X11_hour : List (Nat × Instr × Nat × Nat) := [(0, .aload_n 0, 1, 1), (1, .getfield 41, 3, 4), (4, .getfield 51, 3, 7), (7, .getfield 220, 3, 10), (10, .ifCond .eq 19, 3, 13), (13, .aload_n 0, 1, 14), (14, .getfield 41, 3, 17), (17, .getfield 140, 3, 20), (20, .getfield 192, 3, 23), (23, .sipush 999, 3, 26), (26, .if_icmp .lt 5, 3, 29), (29, .iconst (-1), 1, 30), (30, .ireturn, 1, 31), (31, .aload_n 0, 1, 32), (32, .getfield 41, 3, 35), (35, .invokevirtual 224, 3, 38), (38, .aload_n 0, 1, 39), (39, .getfield 58, 3, 42), (42, .aload_n 0, 1, 43), (43, .aload_n 0, 1, 44), (44, .getfield 41, 3, 47), (47, .getfield 125, 3, 50), (50, .invokevirtual 227, 3, 53), (53, .iconst (-1), 1, 54), (54, .invokevirtual 231, 3, 57), (57, .aload_n 0, 1, 58), (58, .getfield 58, 3, 61), (61, .aload_n 0, 1, 62), (62, .getfield 41, 3, 65), (65, .getfield 140, 3, 68), (68, .invokevirtual 235, 3, 71), (71, .invokestatic 239, 3, 74), (74, .ireturn, 1, 75)]
theorem id_X11_hour : ∀ q ∈ it_X11_hour, decode cX11_hour q.1 = .ok (q.2.1, q.2.2.1) ∧ q.1 + q.2.2.1 = q.2.2.2 := by decide +kernel
theorem dc_X11_hour {pc : Nat} {i : Instr} {n pc' : Nat} (j : Nat) (h : it_X11_hour[j]? = some (pc, i, n, pc')) : Dc cX11_hour pc i n pc' := dc_of id_X11_hour j h
abbrev rm_X11_hour : Room := { frames := 6, cells := 4, slots := 22, locals := 148 }
def b_X11_hour_29     (σ : MS) : Option (Int32 × MS) := some ((-1 : Int32), σ)
set_option maxHeartbeats 4000000 in
set_option maxRecDepth 20000 in
theorem c_X11_hour_29 {X : CX} {Ω : OM} (hX : CF X Ω RX11 cX11_hour 1 (some .int) rm_X11_hour) (hO : OKO Ω) (hal : oAl Ω) (hΩ : oSH Ω = SHX)      (σ : MS)  : GE X Ω 1 4 22 (emWI) 0 0 29 [] [] σ (b_X11_hour_29  σ) := by
  unfold b_X11_hour_29
  refine g_iconst (w := (-1 : Int32)) hX (dc_X11_hour 11 rfl) (by decide) ?_
  exact g_iret hX (dc_X11_hour 12 rfl) rfl rfl (by decide) (by decide)
def b_X11_hour_0     (σ : MS) : Option (Int32 × MS) := (if (sI σ 23 0) = 0 then (b_X11_hour_29 σ) else (if (sI σ 35 5) < (999 : Int32) then (f_X10_remember σ).bind (fun r10 => (f_X11_ruleNumbered (sI r10 22 9) r10).bind (fun r11 => (f_X1_follow r11 (-1 : Int32) r10).bind (fun r12 => (f_X1_passHour 35 r12).bind (fun r13 => (f_J6_bitCount_0f7a4 r13.1).bind (fun r14 => some (r14, r13.2)))))) else (b_X11_hour_29 σ)))
set_option maxHeartbeats 4000000 in
set_option maxRecDepth 20000 in
theorem c_X11_hour_0 {X : CX} {Ω : OM} (hX : CF X Ω RX11 cX11_hour 1 (some .int) rm_X11_hour) (hO : OKO Ω) (hal : oAl Ω) (hΩ : oSH Ω = SHX)      (σ : MS)  : GE X Ω 1 4 22 (emWI) 0 0 0 [(0, .ref 0)] [] σ (b_X11_hour_0  σ) := by
  unfold b_X11_hour_0
  refine g_aload_n hX (dc_X11_hour 0 rfl) rfl 0 rfl ?_
  refine g_getF (q := 22) hX (dc_X11_hour 1 rfl) fl_X11_41 (by decide) rfl (stS hΩ 0 rfl) rfl ?_
  refine g_getF (q := 23) hX (dc_X11_hour 2 rfl) fl_X11_51 (by decide) rfl (stS hΩ 22 rfl) rfl ?_
  refine g_getI hX (dc_X11_hour 3 rfl) fl_X11_220 (by decide) rfl (stS hΩ 23 rfl) ?_
  refine g_if_eq (tgt := 29) hX (dc_X11_hour 4 rfl) (by decide) (fun h8 => ?_) (fun h8 => ?_)
  · refine g_widen (u' := 0) (v' := 0) (by decide) (by decide) ?_
    exact g_sub [] rfl (c_X11_hour_29 hX hO hal hΩ σ)
  · refine g_aload_n hX (dc_X11_hour 5 rfl) rfl 0 rfl ?_
    refine g_getF (q := 22) hX (dc_X11_hour 6 rfl) fl_X11_41 (by decide) rfl (stS hΩ 0 rfl) rfl ?_
    refine g_getF (q := 35) hX (dc_X11_hour 7 rfl) fl_X11_140 (by decide) rfl (stS hΩ 22 rfl) rfl ?_
    refine g_getI hX (dc_X11_hour 8 rfl) fl_X11_192 (by decide) rfl (stS hΩ 35 rfl) ?_
    refine g_sipush (w := (999 : Int32)) hX (dc_X11_hour 9 rfl) (by decide) ?_
    refine g_icmp_lt (tgt := 31) hX (dc_X11_hour 10 rfl) (by decide) (fun h9 => ?_) (fun h9 => ?_)
    · refine g_aload_n hX (dc_X11_hour 13 rfl) rfl 0 rfl ?_
      refine g_getF (q := 22) hX (dc_X11_hour 14 rfl) fl_X11_41 (by decide) rfl (stS hΩ 0 rfl) rfl ?_
      refine gVa_WV (As := []) (st := []) hX (dc_X11_hour 15 rfl) ml_X11_224 (con_X10_remember hO hal hΩ σ) (stS hΩ 22 rfl) rfl rfl ⟨by decide, by decide⟩ ⟨by decide, by decide⟩ (Nat.le_of_ble_eq_true rfl) (fun r10 _ => ?_)
      refine g_aload_n hX (dc_X11_hour 16 rfl) rfl 0 rfl ?_
      refine g_getF (q := 44) hX (dc_X11_hour 17 rfl) fl_X11_58 (by decide) rfl (stS hΩ 0 rfl) rfl ?_
      refine g_aload_n hX (dc_X11_hour 18 rfl) rfl 0 rfl ?_
      refine g_aload_n hX (dc_X11_hour 19 rfl) rfl 0 rfl ?_
      refine g_getF (q := 22) hX (dc_X11_hour 20 rfl) fl_X11_41 (by decide) rfl (stS hΩ 0 rfl) rfl ?_
      refine g_getI hX (dc_X11_hour 21 rfl) fl_X11_125 (by decide) rfl (stS hΩ 22 rfl) ?_
      refine gV_PN (As := [.int (sI r10 22 9)]) (st := [.ref 44]) hX (dc_X11_hour 22 rfl) ml_X11_227 (con_X11_ruleNumbered hO hΩ (sI r10 22 9) r10) (stS hΩ 0 rfl) rfl rfl ⟨by decide, by decide⟩ ⟨rfl, rfl⟩ ⟨by decide, by decide⟩ (Nat.le_of_ble_eq_true rfl) (fun r11 _ => ?_)
      refine g_iconst (w := (-1 : Int32)) hX (dc_X11_hour 23 rfl) (by decide) ?_
      refine gV_WV (As := [va_rf r11, .int (-1 : Int32)]) (st := []) hX (dc_X11_hour 24 rfl) ml_X11_231 (con_X1_follow hO hΩ r11 (-1 : Int32) r10) (stS hΩ 44 rfl) rfl rfl ⟨by decide, by decide⟩ ⟨rfl, rfl⟩ ⟨by decide, by decide⟩ (Nat.le_of_ble_eq_true rfl) (fun r12 _ => ?_)
      refine g_aload_n hX (dc_X11_hour 25 rfl) rfl 0 rfl ?_
      refine g_getF (q := 44) hX (dc_X11_hour 26 rfl) fl_X11_58 (by decide) rfl (stS hΩ 0 rfl) rfl ?_
      refine g_aload_n hX (dc_X11_hour 27 rfl) rfl 0 rfl ?_
      refine g_getF (q := 22) hX (dc_X11_hour 28 rfl) fl_X11_41 (by decide) rfl (stS hΩ 0 rfl) rfl ?_
      refine g_getF (q := 35) hX (dc_X11_hour 29 rfl) fl_X11_140 (by decide) rfl (stS hΩ 22 rfl) rfl ?_
      refine gV_WI (As := [.ref 35]) (st := []) hX (dc_X11_hour 30 rfl) ml_X11_235 (con_X1_passHour hO hΩ 35 r12 (stR hΩ 35 (by decide))) (stS hΩ 44 rfl) rfl rfl ⟨by decide, by decide⟩ ⟨rfl, rfl⟩ ⟨by decide, by decide⟩ (Nat.le_of_ble_eq_true rfl) (fun r13 _ => ?_)
      refine gS_PI (As := [.int r13.1]) (st := []) hX (dc_X11_hour 31 rfl) ml_X11_239 (con_J6_bitCount_0f7a4 hO hΩ r13.1 r13.2) rfl rfl ⟨by decide, by decide⟩ ⟨rfl, rfl⟩ ⟨by decide, by decide⟩ (Nat.le_of_ble_eq_true rfl) (fun r14 _ => ?_)
      exact g_iret hX (dc_X11_hour 32 rfl) rfl rfl (by decide) (by decide)
    · refine g_widen (u' := 0) (v' := 0) (by decide) (by decide) ?_
      exact g_sub [] rfl (c_X11_hour_29 hX hO hal hΩ σ)
def f_X11_hour  (σ : MS) : Option (Int32 × MS) := b_X11_hour_0   σ
theorem con_X11_hour {Ω : OM} (hO : OKO Ω) (hal : oAl Ω) (hΩ : oSH Ω = SHX)  (σ : MS)  : Con Ω yX11_hour cX11_hour 1 (some .int) rm_X11_hour (emWI) [.ref 0] σ (f_X11_hour  σ) :=
  con_of hO (by decide +kernel) (Nat.le_of_ble_eq_true rfl) rfl (fun X hX hn => c_X11_hour_0 hX hO hal hΩ    σ )
def it_X11_begin : List (Nat × Instr × Nat × Nat) := [(0, .aload_n 0, 1, 1), (1, .iload_n 1, 1, 2), (2, .iload_n 2, 1, 3), (3, .invokevirtual 244, 3, 6), (6, .ifCond .ne 5, 3, 9), (9, .iconst (-1), 1, 10), (10, .ireturn, 1, 11), (11, .aload_n 0, 1, 12), (12, .getfield 41, 3, 15), (15, .getfield 140, 3, 18), (18, .astore_n 3, 1, 19), (19, .aload_n 0, 1, 20), (20, .getfield 41, 3, 23), (23, .getfield 51, 3, 26), (26, .getfield 131, 3, 29), (29, .aload_n 0, 1, 30), (30, .getfield 41, 3, 33), (33, .getfield 51, 3, 36), (36, .getfield 165, 3, 39), (39, .iload_n 1, 1, 40), (40, .iaload, 1, 41), (41, .iaload, 1, 42), (42, .istore 4, 2, 44), (44, .aload_n 3, 1, 45), (45, .getfield 143, 3, 48), (48, .iload_n 2, 1, 49), (49, .iaload, 1, 50), (50, .iload 4, 2, 52), (52, .if_icmp .ge 5, 3, 55), (55, .iconst (-1), 1, 56), (56, .ireturn, 1, 57), (57, .aload_n 0, 1, 58), (58, .getfield 41, 3, 61), (61, .invokevirtual 224, 3, 64), (64, .aload_n 3, 1, 65), (65, .iload_n 2, 1, 66), (66, .iload 4, 2, 68), (68, .invokevirtual 247, 3, 71), (71, .aload_n 3, 1, 72), (72, .getfield 168, 3, 75), (75, .iload_n 1, 1, 76), (76, .iload_n 2, 1, 77), (77, .iastore, 1, 78), (78, .aload_n 3, 1, 79), (79, .getfield 143, 3, 82), (82, .iload_n 2, 1, 83), (83, .iaload, 1, 84), (84, .ireturn, 1, 85)]
theorem id_X11_begin : ∀ q ∈ it_X11_begin, decode cX11_begin q.1 = .ok (q.2.1, q.2.2.1) ∧ q.1 + q.2.2.1 = q.2.2.2 := by decide +kernel
theorem dc_X11_begin {pc : Nat} {i : Instr} {n pc' : Nat} (j : Nat) (h : it_X11_begin[j]? = some (pc, i, n, pc')) : Dc cX11_begin pc i n pc' := dc_of id_X11_begin j h
abbrev rm_X11_begin : Room := { frames := 4, cells := 4, slots := 22, locals := 124 }
def b_X11_begin_0   (x1 : Int32) (x2 : Int32)  (σ : MS) : Option (Int32 × MS) := (f_X11_canStart x1 x2 σ).bind (fun r11 => (if r11 = 0 then some ((-1 : Int32), σ) else chk (inb x1 6) (chk (inb (sI σ 29 (ix x1)) 5) (chk (inb x2 4) ((if (sI σ 24 (ix (sI σ 29 (ix x1)))) ≤ (sI σ 38 (ix x2)) then (f_X10_remember σ).bind (fun r17 => (f_X8_payIntoChest 35 x2 (sI σ 24 (ix (sI σ 29 (ix x1)))) r17).bind (fun r18 => chk (inb x1 6) (chk (inb x2 4) (some ((sI (wI r18 36 (ix x1) x2) 38 (ix x2)), (wI r18 36 (ix x1) x2)))))) else some ((-1 : Int32), σ)))))))
set_option maxHeartbeats 4000000 in
set_option maxRecDepth 20000 in
theorem c_X11_begin_0 {X : CX} {Ω : OM} (hX : CF X Ω RX11 cX11_begin 5 (some .int) rm_X11_begin) (hO : OKO Ω) (hal : oAl Ω) (hΩ : oSH Ω = SHX)    (x1 : Int32) (x2 : Int32)  (σ : MS)  : GE X Ω 5 4 22 (emWI) 0 0 0 [(0, .ref 0), (1, .int x1), (2, .int x2)] [] σ (b_X11_begin_0  x1 x2 σ) := by
  unfold b_X11_begin_0
  refine g_aload_n hX (dc_X11_begin 0 rfl) rfl 0 rfl ?_
  refine g_iload_n hX (dc_X11_begin 1 rfl) rfl 1 rfl ?_
  refine g_iload_n hX (dc_X11_begin 2 rfl) rfl 2 rfl ?_
  refine gV_PI (As := [.int x1, .int x2]) (st := []) hX (dc_X11_begin 3 rfl) ml_X11_244 (con_X11_canStart hO hΩ x1 x2 σ) (stS hΩ 0 rfl) rfl rfl ⟨by decide, by decide⟩ ⟨rfl, rfl⟩ ⟨by decide, by decide⟩ (Nat.le_of_ble_eq_true rfl) (fun r11 _ => ?_)
  refine g_if_ne (tgt := 11) hX (dc_X11_begin 4 rfl) (by decide) (fun h12 => ?_) (fun h12 => ?_)
  · refine g_iconst (w := (-1 : Int32)) hX (dc_X11_begin 5 rfl) (by decide) ?_
    exact g_iret hX (dc_X11_begin 6 rfl) rfl rfl (by decide) (by decide)
  · refine g_aload_n hX (dc_X11_begin 7 rfl) rfl 0 rfl ?_
    refine g_getF (q := 22) hX (dc_X11_begin 8 rfl) fl_X11_41 (by decide) rfl (stS hΩ 0 rfl) rfl ?_
    refine g_getF (q := 35) hX (dc_X11_begin 9 rfl) fl_X11_140 (by decide) rfl (stS hΩ 22 rfl) rfl ?_
    refine g_astore_n (L' := [(3, .ref 35), (0, .ref 0), (1, .int x1), (2, .int x2)]) hX (dc_X11_begin 10 rfl) rfl (by decide) rfl ?_
    refine g_aload_n hX (dc_X11_begin 11 rfl) rfl 1 rfl ?_
    refine g_getF (q := 22) hX (dc_X11_begin 12 rfl) fl_X11_41 (by decide) rfl (stS hΩ 0 rfl) rfl ?_
    refine g_getF (q := 23) hX (dc_X11_begin 13 rfl) fl_X11_51 (by decide) rfl (stS hΩ 22 rfl) rfl ?_
    refine g_getF (q := 24) hX (dc_X11_begin 14 rfl) fl_X11_131 (by decide) rfl (stS hΩ 23 rfl) rfl ?_
    refine g_aload_n hX (dc_X11_begin 15 rfl) rfl 1 rfl ?_
    refine g_getF (q := 22) hX (dc_X11_begin 16 rfl) fl_X11_41 (by decide) rfl (stS hΩ 0 rfl) rfl ?_
    refine g_getF (q := 23) hX (dc_X11_begin 17 rfl) fl_X11_51 (by decide) rfl (stS hΩ 22 rfl) rfl ?_
    refine g_getF (q := 29) hX (dc_X11_begin 18 rfl) fl_X11_165 (by decide) rfl (stS hΩ 23 rfl) rfl ?_
    refine g_iload_n hX (dc_X11_begin 19 rfl) rfl 2 rfl ?_
    refine g_chk (fun hc13 => ?_)
    refine g_iald hX (dc_X11_begin 20 rfl) (stS hΩ 29 rfl) hc13 rfl ?_
    refine g_chk (fun hc14 => ?_)
    refine g_iald hX (dc_X11_begin 21 rfl) (stS hΩ 24 rfl) hc14 rfl ?_
    refine g_istore (L' := [(4, .int (sI σ 24 (ix (sI σ 29 (ix x1))))), (3, .ref 35), (0, .ref 0), (1, .int x1), (2, .int x2)]) hX (dc_X11_begin 22 rfl) (by decide) rfl ?_
    refine g_aload_n hX (dc_X11_begin 23 rfl) rfl 1 rfl ?_
    refine g_getF (q := 38) hX (dc_X11_begin 24 rfl) fl_X11_143 (by decide) rfl (stS hΩ 35 rfl) rfl ?_
    refine g_iload_n hX (dc_X11_begin 25 rfl) rfl 4 rfl ?_
    refine g_chk (fun hc15 => ?_)
    refine g_iald hX (dc_X11_begin 26 rfl) (stS hΩ 38 rfl) hc15 rfl ?_
    refine g_iload hX (dc_X11_begin 27 rfl) 0 rfl ?_
    refine g_icmp_ge (tgt := 57) hX (dc_X11_begin 28 rfl) (by decide) (fun h16 => ?_) (fun h16 => ?_)
    · refine g_aload_n hX (dc_X11_begin 31 rfl) rfl 2 rfl ?_
      refine g_getF (q := 22) hX (dc_X11_begin 32 rfl) fl_X11_41 (by decide) rfl (stS hΩ 0 rfl) rfl ?_
      refine gVa_WV (As := []) (st := []) hX (dc_X11_begin 33 rfl) ml_X11_224 (con_X10_remember hO hal hΩ σ) (stS hΩ 22 rfl) rfl rfl ⟨by decide, by decide⟩ ⟨by decide, by decide⟩ (Nat.le_of_ble_eq_true rfl) (fun r17 _ => ?_)
      refine g_aload_n hX (dc_X11_begin 34 rfl) rfl 1 rfl ?_
      refine g_iload_n hX (dc_X11_begin 35 rfl) rfl 4 rfl ?_
      refine g_iload hX (dc_X11_begin 36 rfl) 0 rfl ?_
      refine gV_WV (As := [.int x2, .int (sI σ 24 (ix (sI σ 29 (ix x1))))]) (st := []) hX (dc_X11_begin 37 rfl) ml_X11_247 (con_X8_payIntoChest hO hΩ 35 x2 (sI σ 24 (ix (sI σ 29 (ix x1)))) r17 (stR hΩ 35 (by decide))) (stS hΩ 35 rfl) rfl rfl ⟨by decide, by decide⟩ ⟨rfl, rfl⟩ ⟨by decide, by decide⟩ (Nat.le_of_ble_eq_true rfl) (fun r18 _ => ?_)
      refine g_aload_n hX (dc_X11_begin 38 rfl) rfl 1 rfl ?_
      refine g_getF (q := 36) hX (dc_X11_begin 39 rfl) fl_X11_168 (by decide) rfl (stS hΩ 35 rfl) rfl ?_
      refine g_iload_n hX (dc_X11_begin 40 rfl) rfl 3 rfl ?_
      refine g_iload_n hX (dc_X11_begin 41 rfl) rfl 4 rfl ?_
      refine g_chk (fun hc19 => ?_)
      refine g_iast hX (dc_X11_begin 42 rfl) (stS hΩ 36 rfl) hc19 rfl ?_
      refine g_aload_n hX (dc_X11_begin 43 rfl) rfl 1 rfl ?_
      refine g_getF (q := 38) hX (dc_X11_begin 44 rfl) fl_X11_143 (by decide) rfl (stS hΩ 35 rfl) rfl ?_
      refine g_iload_n hX (dc_X11_begin 45 rfl) rfl 4 rfl ?_
      refine g_chk (fun hc20 => ?_)
      refine g_iald hX (dc_X11_begin 46 rfl) (stS hΩ 38 rfl) hc20 rfl ?_
      exact g_iret hX (dc_X11_begin 47 rfl) rfl rfl (by decide) (by decide)
    · refine g_iconst (w := (-1 : Int32)) hX (dc_X11_begin 29 rfl) (by decide) ?_
      exact g_iret hX (dc_X11_begin 30 rfl) rfl rfl (by decide) (by decide)
def f_X11_begin (x1 : Int32) (x2 : Int32) (σ : MS) : Option (Int32 × MS) := b_X11_begin_0  x1 x2 σ
theorem con_X11_begin {Ω : OM} (hO : OKO Ω) (hal : oAl Ω) (hΩ : oSH Ω = SHX) (x1 : Int32) (x2 : Int32) (σ : MS)  : Con Ω yX11_begin cX11_begin 5 (some .int) rm_X11_begin (emWI) [.ref 0, .int x1, .int x2] σ (f_X11_begin x1 x2 σ) :=
  con_of hO (by decide +kernel) (Nat.le_of_ble_eq_true rfl) rfl (fun X hX hn => c_X11_begin_0 hX hO hal hΩ   x1 x2 σ )
def it_X11_sneak : List (Nat × Instr × Nat × Nat) := [(0, .aload_n 0, 1, 1), (1, .iload_n 1, 1, 2), (2, .iload_n 2, 1, 3), (3, .invokevirtual 244, 3, 6), (6, .ifCond .ne 5, 3, 9), (9, .iconst (-1), 1, 10), (10, .ireturn, 1, 11), (11, .aload_n 0, 1, 12), (12, .getfield 41, 3, 15), (15, .invokevirtual 224, 3, 18), (18, .aload_n 0, 1, 19), (19, .getfield 41, 3, 22), (22, .getfield 140, 3, 25), (25, .getfield 168, 3, 28), (28, .iload_n 1, 1, 29), (29, .iload_n 2, 1, 30), (30, .iastore, 1, 31), (31, .aload_n 0, 1, 32), (32, .getfield 41, 3, 35), (35, .getfield 140, 3, 38), (38, .dup, 1, 39), (39, .getfield 198, 3, 42), (42, .iconst 1, 1, 43), (43, .iload_n 1, 1, 44), (44, .ishl, 1, 45), (45, .ior, 1, 46), (46, .putfield 198, 3, 49), (49, .aload_n 0, 1, 50), (50, .getfield 41, 3, 53), (53, .getfield 140, 3, 56), (56, .getfield 198, 3, 59), (59, .ireturn, 1, 60)]
theorem id_X11_sneak : ∀ q ∈ it_X11_sneak, decode cX11_sneak q.1 = .ok (q.2.1, q.2.2.1) ∧ q.1 + q.2.2.1 = q.2.2.2 := by decide +kernel
theorem dc_X11_sneak {pc : Nat} {i : Instr} {n pc' : Nat} (j : Nat) (h : it_X11_sneak[j]? = some (pc, i, n, pc')) : Dc cX11_sneak pc i n pc' := dc_of id_X11_sneak j h
abbrev rm_X11_sneak : Room := { frames := 4, cells := 4, slots := 22, locals := 124 }
def b_X11_sneak_0   (x1 : Int32) (x2 : Int32)  (σ : MS) : Option (Int32 × MS) := (f_X11_canStart x1 x2 σ).bind (fun r5 => (if r5 = 0 then some ((-1 : Int32), σ) else (f_X10_remember σ).bind (fun r7 => chk (inb x1 6) (some ((sI (wI (wI r7 36 (ix x1) x2) 35 3 ((sI (wI r7 36 (ix x1) x2) 35 3) ||| ((1 : Int32) <<< (x1 &&& 31)))) 35 3), (wI (wI r7 36 (ix x1) x2) 35 3 ((sI (wI r7 36 (ix x1) x2) 35 3) ||| ((1 : Int32) <<< (x1 &&& 31)))))))))
set_option maxHeartbeats 4000000 in
set_option maxRecDepth 20000 in
theorem c_X11_sneak_0 {X : CX} {Ω : OM} (hX : CF X Ω RX11 cX11_sneak 3 (some .int) rm_X11_sneak) (hO : OKO Ω) (hal : oAl Ω) (hΩ : oSH Ω = SHX)    (x1 : Int32) (x2 : Int32)  (σ : MS)  : GE X Ω 3 4 22 (emWI) 0 0 0 [(0, .ref 0), (1, .int x1), (2, .int x2)] [] σ (b_X11_sneak_0  x1 x2 σ) := by
  unfold b_X11_sneak_0
  refine g_aload_n hX (dc_X11_sneak 0 rfl) rfl 0 rfl ?_
  refine g_iload_n hX (dc_X11_sneak 1 rfl) rfl 1 rfl ?_
  refine g_iload_n hX (dc_X11_sneak 2 rfl) rfl 2 rfl ?_
  refine gV_PI (As := [.int x1, .int x2]) (st := []) hX (dc_X11_sneak 3 rfl) ml_X11_244 (con_X11_canStart hO hΩ x1 x2 σ) (stS hΩ 0 rfl) rfl rfl ⟨by decide, by decide⟩ ⟨rfl, rfl⟩ ⟨by decide, by decide⟩ (Nat.le_of_ble_eq_true rfl) (fun r5 _ => ?_)
  refine g_if_ne (tgt := 11) hX (dc_X11_sneak 4 rfl) (by decide) (fun h6 => ?_) (fun h6 => ?_)
  · refine g_iconst (w := (-1 : Int32)) hX (dc_X11_sneak 5 rfl) (by decide) ?_
    exact g_iret hX (dc_X11_sneak 6 rfl) rfl rfl (by decide) (by decide)
  · refine g_aload_n hX (dc_X11_sneak 7 rfl) rfl 0 rfl ?_
    refine g_getF (q := 22) hX (dc_X11_sneak 8 rfl) fl_X11_41 (by decide) rfl (stS hΩ 0 rfl) rfl ?_
    refine gVa_WV (As := []) (st := []) hX (dc_X11_sneak 9 rfl) ml_X11_224 (con_X10_remember hO hal hΩ σ) (stS hΩ 22 rfl) rfl rfl ⟨by decide, by decide⟩ ⟨by decide, by decide⟩ (Nat.le_of_ble_eq_true rfl) (fun r7 _ => ?_)
    refine g_aload_n hX (dc_X11_sneak 10 rfl) rfl 0 rfl ?_
    refine g_getF (q := 22) hX (dc_X11_sneak 11 rfl) fl_X11_41 (by decide) rfl (stS hΩ 0 rfl) rfl ?_
    refine g_getF (q := 35) hX (dc_X11_sneak 12 rfl) fl_X11_140 (by decide) rfl (stS hΩ 22 rfl) rfl ?_
    refine g_getF (q := 36) hX (dc_X11_sneak 13 rfl) fl_X11_168 (by decide) rfl (stS hΩ 35 rfl) rfl ?_
    refine g_iload_n hX (dc_X11_sneak 14 rfl) rfl 1 rfl ?_
    refine g_iload_n hX (dc_X11_sneak 15 rfl) rfl 2 rfl ?_
    refine g_chk (fun hc8 => ?_)
    refine g_iast hX (dc_X11_sneak 16 rfl) (stS hΩ 36 rfl) hc8 rfl ?_
    refine g_aload_n hX (dc_X11_sneak 17 rfl) rfl 0 rfl ?_
    refine g_getF (q := 22) hX (dc_X11_sneak 18 rfl) fl_X11_41 (by decide) rfl (stS hΩ 0 rfl) rfl ?_
    refine g_getF (q := 35) hX (dc_X11_sneak 19 rfl) fl_X11_140 (by decide) rfl (stS hΩ 22 rfl) rfl ?_
    refine g_dup hX (dc_X11_sneak 20 rfl) rfl ?_
    refine g_getI hX (dc_X11_sneak 21 rfl) fl_X11_198 (by decide) rfl (stS hΩ 35 rfl) ?_
    refine g_iconst (w := (1 : Int32)) hX (dc_X11_sneak 22 rfl) (by decide) ?_
    refine g_iload_n hX (dc_X11_sneak 23 rfl) rfl 1 rfl ?_
    refine g_ishl hX (dc_X11_sneak 24 rfl) ?_
    refine g_ior hX (dc_X11_sneak 25 rfl) ?_
    refine g_putI (raw := false) hX (dc_X11_sneak 26 rfl) fl_X11_198 (by decide) ⟨rfl, rfl⟩ ⟨rfl, rfl⟩ (stS hΩ 35 rfl) ?_
    refine g_aload_n hX (dc_X11_sneak 27 rfl) rfl 0 rfl ?_
    refine g_getF (q := 22) hX (dc_X11_sneak 28 rfl) fl_X11_41 (by decide) rfl (stS hΩ 0 rfl) rfl ?_
    refine g_getF (q := 35) hX (dc_X11_sneak 29 rfl) fl_X11_140 (by decide) rfl (stS hΩ 22 rfl) rfl ?_
    refine g_getI hX (dc_X11_sneak 30 rfl) fl_X11_198 (by decide) rfl (stS hΩ 35 rfl) ?_
    exact g_iret hX (dc_X11_sneak 31 rfl) rfl rfl (by decide) (by decide)
def f_X11_sneak (x1 : Int32) (x2 : Int32) (σ : MS) : Option (Int32 × MS) := b_X11_sneak_0  x1 x2 σ
theorem con_X11_sneak {Ω : OM} (hO : OKO Ω) (hal : oAl Ω) (hΩ : oSH Ω = SHX) (x1 : Int32) (x2 : Int32) (σ : MS)  : Con Ω yX11_sneak cX11_sneak 3 (some .int) rm_X11_sneak (emWI) [.ref 0, .int x1, .int x2] σ (f_X11_sneak x1 x2 σ) :=
  con_of hO (by decide +kernel) (Nat.le_of_ble_eq_true rfl) rfl (fun X hX hn => c_X11_sneak_0 hX hO hal hΩ   x1 x2 σ )
def it_X11_hand : List (Nat × Instr × Nat × Nat) := [(0, .aload_n 0, 1, 1), (1, .iload_n 1, 1, 2), (2, .invokevirtual 251, 3, 5), (5, .ifCond .eq 19, 3, 8), (8, .aload_n 0, 1, 9), (9, .iload_n 2, 1, 10), (10, .invokevirtual 159, 3, 13), (13, .ifCond .eq 11, 3, 16), (16, .aload_n 0, 1, 17), (17, .iload_n 2, 1, 18), (18, .invokevirtual 254, 3, 21), (21, .ifCond .ne 5, 3, 24), (24, .iconst (-1), 1, 25), (25, .ireturn, 1, 26), (26, .aload_n 0, 1, 27), (27, .getfield 41, 3, 30), (30, .getfield 140, 3, 33), (33, .getfield 168, 3, 36), (36, .iload_n 1, 1, 37), (37, .iaload, 1, 38), (38, .istore_n 3, 1, 39), (39, .iload_n 3, 1, 40), (40, .iload_n 2, 1, 41), (41, .if_icmp .eq 11, 3, 44), (44, .aload_n 0, 1, 45), (45, .iload_n 3, 1, 46), (46, .invokevirtual 159, 3, 49), (49, .ifCond .ne 5, 3, 52), (52, .iconst (-1), 1, 53), (53, .ireturn, 1, 54), (54, .aload_n 0, 1, 55), (55, .getfield 41, 3, 58), (58, .invokevirtual 224, 3, 61), (61, .aload_n 0, 1, 62), (62, .getfield 41, 3, 65), (65, .getfield 140, 3, 68), (68, .getfield 168, 3, 71), (71, .iload_n 1, 1, 72), (72, .iload_n 2, 1, 73), (73, .iastore, 1, 74), (74, .iload_n 3, 1, 75), (75, .ireturn, 1, 76)]
theorem id_X11_hand : ∀ q ∈ it_X11_hand, decode cX11_hand q.1 = .ok (q.2.1, q.2.2.1) ∧ q.1 + q.2.2.1 = q.2.2.2 := by decide +kernel
theorem dc_X11_hand {pc : Nat} {i : Instr} {n pc' : Nat} (j : Nat) (h : it_X11_hand[j]? = some (pc, i, n, pc')) : Dc cX11_hand pc i n pc' := dc_of id_X11_hand j h
abbrev rm_X11_hand : Room := { frames := 4, cells := 4, slots := 22, locals := 124 }
def b_X11_hand_52     (σ : MS) : Option (Int32 × MS) := some ((-1 : Int32), σ)
set_option maxHeartbeats 4000000 in
set_option maxRecDepth 20000 in
theorem c_X11_hand_52 {X : CX} {Ω : OM} (hX : CF X Ω RX11 cX11_hand 4 (some .int) rm_X11_hand) (hO : OKO Ω) (hal : oAl Ω) (hΩ : oSH Ω = SHX)      (σ : MS)  : GE X Ω 4 4 22 (emWI) 0 0 52 [] [] σ (b_X11_hand_52  σ) := by
  unfold b_X11_hand_52
  refine g_iconst (w := (-1 : Int32)) hX (dc_X11_hand 28 rfl) (by decide) ?_
  exact g_iret hX (dc_X11_hand 29 rfl) rfl rfl (by decide) (by decide)
def b_X11_hand_24     (σ : MS) : Option (Int32 × MS) := some ((-1 : Int32), σ)
set_option maxHeartbeats 4000000 in
set_option maxRecDepth 20000 in
theorem c_X11_hand_24 {X : CX} {Ω : OM} (hX : CF X Ω RX11 cX11_hand 4 (some .int) rm_X11_hand) (hO : OKO Ω) (hal : oAl Ω) (hΩ : oSH Ω = SHX)      (σ : MS)  : GE X Ω 4 4 22 (emWI) 0 0 24 [] [] σ (b_X11_hand_24  σ) := by
  unfold b_X11_hand_24
  refine g_iconst (w := (-1 : Int32)) hX (dc_X11_hand 12 rfl) (by decide) ?_
  exact g_iret hX (dc_X11_hand 13 rfl) rfl rfl (by decide) (by decide)
def b_X11_hand_0   (x1 : Int32) (x2 : Int32)  (σ : MS) : Option (Int32 × MS) := (f_X11_goes x1 σ).bind (fun r13 => (if r13 = 0 then (b_X11_hand_24 σ) else (f_X11_isAwake x2 σ).bind (fun r15 => (if r15 = 0 then (b_X11_hand_24 σ) else (f_X11_hasHandFree x2 σ).bind (fun r17 => (if r17 = 0 then (b_X11_hand_24 σ) else chk (inb x1 6) ((if (sI σ 36 (ix x1)) = x2 then (b_X11_hand_52 σ) else (f_X11_isAwake (sI σ 36 (ix x1)) σ).bind (fun r21 => (if r21 = 0 then (b_X11_hand_52 σ) else (f_X10_remember σ).bind (fun r23 => chk (inb x1 6) (some ((sI σ 36 (ix x1)), (wI r23 36 (ix x1) x2))))))))))))))
set_option maxHeartbeats 4000000 in
set_option maxRecDepth 20000 in
theorem c_X11_hand_0 {X : CX} {Ω : OM} (hX : CF X Ω RX11 cX11_hand 4 (some .int) rm_X11_hand) (hO : OKO Ω) (hal : oAl Ω) (hΩ : oSH Ω = SHX)    (x1 : Int32) (x2 : Int32)  (σ : MS)  : GE X Ω 4 4 22 (emWI) 0 0 0 [(0, .ref 0), (1, .int x1), (2, .int x2)] [] σ (b_X11_hand_0  x1 x2 σ) := by
  unfold b_X11_hand_0
  refine g_aload_n hX (dc_X11_hand 0 rfl) rfl 0 rfl ?_
  refine g_iload_n hX (dc_X11_hand 1 rfl) rfl 1 rfl ?_
  refine gV_PI (As := [.int x1]) (st := []) hX (dc_X11_hand 2 rfl) ml_X11_251 (con_X11_goes hO hΩ x1 σ) (stS hΩ 0 rfl) rfl rfl ⟨by decide, by decide⟩ ⟨rfl, rfl⟩ ⟨by decide, by decide⟩ (Nat.le_of_ble_eq_true rfl) (fun r13 _ => ?_)
  refine g_if_eq (tgt := 24) hX (dc_X11_hand 3 rfl) (by decide) (fun h14 => ?_) (fun h14 => ?_)
  · refine g_widen (u' := 0) (v' := 0) (by decide) (by decide) ?_
    exact g_sub [] rfl (c_X11_hand_24 hX hO hal hΩ σ)
  · refine g_aload_n hX (dc_X11_hand 4 rfl) rfl 0 rfl ?_
    refine g_iload_n hX (dc_X11_hand 5 rfl) rfl 2 rfl ?_
    refine gV_PI (As := [.int x2]) (st := []) hX (dc_X11_hand 6 rfl) ml_X11_159 (con_X11_isAwake hO hΩ x2 σ) (stS hΩ 0 rfl) rfl rfl ⟨by decide, by decide⟩ ⟨rfl, rfl⟩ ⟨by decide, by decide⟩ (Nat.le_of_ble_eq_true rfl) (fun r15 _ => ?_)
    refine g_if_eq (tgt := 24) hX (dc_X11_hand 7 rfl) (by decide) (fun h16 => ?_) (fun h16 => ?_)
    · refine g_widen (u' := 0) (v' := 0) (by decide) (by decide) ?_
      exact g_sub [] rfl (c_X11_hand_24 hX hO hal hΩ σ)
    · refine g_aload_n hX (dc_X11_hand 8 rfl) rfl 0 rfl ?_
      refine g_iload_n hX (dc_X11_hand 9 rfl) rfl 2 rfl ?_
      refine gV_PI (As := [.int x2]) (st := []) hX (dc_X11_hand 10 rfl) ml_X11_254 (con_X11_hasHandFree hO hΩ x2 σ) (stS hΩ 0 rfl) rfl rfl ⟨by decide, by decide⟩ ⟨rfl, rfl⟩ ⟨by decide, by decide⟩ (Nat.le_of_ble_eq_true rfl) (fun r17 _ => ?_)
      refine g_if_ne (tgt := 26) hX (dc_X11_hand 11 rfl) (by decide) (fun h18 => ?_) (fun h18 => ?_)
      · refine g_widen (u' := 0) (v' := 0) (by decide) (by decide) ?_
        exact g_sub [] rfl (c_X11_hand_24 hX hO hal hΩ σ)
      · refine g_aload_n hX (dc_X11_hand 14 rfl) rfl 0 rfl ?_
        refine g_getF (q := 22) hX (dc_X11_hand 15 rfl) fl_X11_41 (by decide) rfl (stS hΩ 0 rfl) rfl ?_
        refine g_getF (q := 35) hX (dc_X11_hand 16 rfl) fl_X11_140 (by decide) rfl (stS hΩ 22 rfl) rfl ?_
        refine g_getF (q := 36) hX (dc_X11_hand 17 rfl) fl_X11_168 (by decide) rfl (stS hΩ 35 rfl) rfl ?_
        refine g_iload_n hX (dc_X11_hand 18 rfl) rfl 1 rfl ?_
        refine g_chk (fun hc19 => ?_)
        refine g_iald hX (dc_X11_hand 19 rfl) (stS hΩ 36 rfl) hc19 rfl ?_
        refine g_istore_n (L' := [(3, .int (sI σ 36 (ix x1))), (0, .ref 0), (1, .int x1), (2, .int x2)]) hX (dc_X11_hand 20 rfl) rfl (by decide) rfl ?_
        refine g_iload_n hX (dc_X11_hand 21 rfl) rfl 0 rfl ?_
        refine g_iload_n hX (dc_X11_hand 22 rfl) rfl 3 rfl ?_
        refine g_icmp_eq (tgt := 52) hX (dc_X11_hand 23 rfl) (by decide) (fun h20 => ?_) (fun h20 => ?_)
        · refine g_widen (u' := 0) (v' := 0) (by decide) (by decide) ?_
          exact g_sub [] rfl (c_X11_hand_52 hX hO hal hΩ σ)
        · refine g_aload_n hX (dc_X11_hand 24 rfl) rfl 1 rfl ?_
          refine g_iload_n hX (dc_X11_hand 25 rfl) rfl 0 rfl ?_
          refine gV_PI (As := [.int (sI σ 36 (ix x1))]) (st := []) hX (dc_X11_hand 26 rfl) ml_X11_159 (con_X11_isAwake hO hΩ (sI σ 36 (ix x1)) σ) (stS hΩ 0 rfl) rfl rfl ⟨by decide, by decide⟩ ⟨rfl, rfl⟩ ⟨by decide, by decide⟩ (Nat.le_of_ble_eq_true rfl) (fun r21 _ => ?_)
          refine g_if_ne (tgt := 54) hX (dc_X11_hand 27 rfl) (by decide) (fun h22 => ?_) (fun h22 => ?_)
          · refine g_widen (u' := 0) (v' := 0) (by decide) (by decide) ?_
            exact g_sub [] rfl (c_X11_hand_52 hX hO hal hΩ σ)
          · refine g_aload_n hX (dc_X11_hand 30 rfl) rfl 1 rfl ?_
            refine g_getF (q := 22) hX (dc_X11_hand 31 rfl) fl_X11_41 (by decide) rfl (stS hΩ 0 rfl) rfl ?_
            refine gVa_WV (As := []) (st := []) hX (dc_X11_hand 32 rfl) ml_X11_224 (con_X10_remember hO hal hΩ σ) (stS hΩ 22 rfl) rfl rfl ⟨by decide, by decide⟩ ⟨by decide, by decide⟩ (Nat.le_of_ble_eq_true rfl) (fun r23 _ => ?_)
            refine g_aload_n hX (dc_X11_hand 33 rfl) rfl 1 rfl ?_
            refine g_getF (q := 22) hX (dc_X11_hand 34 rfl) fl_X11_41 (by decide) rfl (stS hΩ 0 rfl) rfl ?_
            refine g_getF (q := 35) hX (dc_X11_hand 35 rfl) fl_X11_140 (by decide) rfl (stS hΩ 22 rfl) rfl ?_
            refine g_getF (q := 36) hX (dc_X11_hand 36 rfl) fl_X11_168 (by decide) rfl (stS hΩ 35 rfl) rfl ?_
            refine g_iload_n hX (dc_X11_hand 37 rfl) rfl 2 rfl ?_
            refine g_iload_n hX (dc_X11_hand 38 rfl) rfl 3 rfl ?_
            refine g_chk (fun hc24 => ?_)
            refine g_iast hX (dc_X11_hand 39 rfl) (stS hΩ 36 rfl) hc24 rfl ?_
            refine g_iload_n hX (dc_X11_hand 40 rfl) rfl 0 rfl ?_
            exact g_iret hX (dc_X11_hand 41 rfl) rfl rfl (by decide) (by decide)
def f_X11_hand (x1 : Int32) (x2 : Int32) (σ : MS) : Option (Int32 × MS) := b_X11_hand_0  x1 x2 σ
theorem con_X11_hand {Ω : OM} (hO : OKO Ω) (hal : oAl Ω) (hΩ : oSH Ω = SHX) (x1 : Int32) (x2 : Int32) (σ : MS)  : Con Ω yX11_hand cX11_hand 4 (some .int) rm_X11_hand (emWI) [.ref 0, .int x1, .int x2] σ (f_X11_hand x1 x2 σ) :=
  con_of hO (by decide +kernel) (Nat.le_of_ble_eq_true rfl) rfl (fun X hX hn => c_X11_hand_0 hX hO hal hΩ   x1 x2 σ )
def it_X11_drop : List (Nat × Instr × Nat × Nat) := [(0, .aload_n 0, 1, 1), (1, .iload_n 1, 1, 2), (2, .invokevirtual 251, 3, 5), (5, .ifCond .ne 5, 3, 8), (8, .iconst (-1), 1, 9), (9, .ireturn, 1, 10), (10, .aload_n 0, 1, 11), (11, .getfield 41, 3, 14), (14, .getfield 140, 3, 17), (17, .getfield 168, 3, 20), (20, .iload_n 1, 1, 21), (21, .iaload, 1, 22), (22, .istore_n 2, 1, 23), (23, .aload_n 0, 1, 24), (24, .getfield 41, 3, 27), (27, .invokevirtual 224, 3, 30), (30, .aload_n 0, 1, 31), (31, .getfield 41, 3, 34), (34, .getfield 140, 3, 37), (37, .iload_n 1, 1, 38), (38, .invokevirtual 257, 3, 41), (41, .iload_n 2, 1, 42), (42, .ireturn, 1, 43)]
theorem id_X11_drop : ∀ q ∈ it_X11_drop, decode cX11_drop q.1 = .ok (q.2.1, q.2.2.1) ∧ q.1 + q.2.2.1 = q.2.2.2 := by decide +kernel
theorem dc_X11_drop {pc : Nat} {i : Instr} {n pc' : Nat} (j : Nat) (h : it_X11_drop[j]? = some (pc, i, n, pc')) : Dc cX11_drop pc i n pc' := dc_of id_X11_drop j h
abbrev rm_X11_drop : Room := { frames := 4, cells := 4, slots := 22, locals := 124 }
def b_X11_drop_0   (x1 : Int32)  (σ : MS) : Option (Int32 × MS) := (f_X11_goes x1 σ).bind (fun r6 => (if r6 = 0 then some ((-1 : Int32), σ) else chk (inb x1 6) ((f_X10_remember σ).bind (fun r9 => (f_X8_lay 35 x1 r9).bind (fun r10 => some ((sI σ 36 (ix x1)), r10))))))
set_option maxHeartbeats 4000000 in
set_option maxRecDepth 20000 in
theorem c_X11_drop_0 {X : CX} {Ω : OM} (hX : CF X Ω RX11 cX11_drop 3 (some .int) rm_X11_drop) (hO : OKO Ω) (hal : oAl Ω) (hΩ : oSH Ω = SHX)    (x1 : Int32)  (σ : MS)  : GE X Ω 3 4 22 (emWI) 0 0 0 [(0, .ref 0), (1, .int x1)] [] σ (b_X11_drop_0  x1 σ) := by
  unfold b_X11_drop_0
  refine g_aload_n hX (dc_X11_drop 0 rfl) rfl 0 rfl ?_
  refine g_iload_n hX (dc_X11_drop 1 rfl) rfl 1 rfl ?_
  refine gV_PI (As := [.int x1]) (st := []) hX (dc_X11_drop 2 rfl) ml_X11_251 (con_X11_goes hO hΩ x1 σ) (stS hΩ 0 rfl) rfl rfl ⟨by decide, by decide⟩ ⟨rfl, rfl⟩ ⟨by decide, by decide⟩ (Nat.le_of_ble_eq_true rfl) (fun r6 _ => ?_)
  refine g_if_ne (tgt := 10) hX (dc_X11_drop 3 rfl) (by decide) (fun h7 => ?_) (fun h7 => ?_)
  · refine g_iconst (w := (-1 : Int32)) hX (dc_X11_drop 4 rfl) (by decide) ?_
    exact g_iret hX (dc_X11_drop 5 rfl) rfl rfl (by decide) (by decide)
  · refine g_aload_n hX (dc_X11_drop 6 rfl) rfl 0 rfl ?_
    refine g_getF (q := 22) hX (dc_X11_drop 7 rfl) fl_X11_41 (by decide) rfl (stS hΩ 0 rfl) rfl ?_
    refine g_getF (q := 35) hX (dc_X11_drop 8 rfl) fl_X11_140 (by decide) rfl (stS hΩ 22 rfl) rfl ?_
    refine g_getF (q := 36) hX (dc_X11_drop 9 rfl) fl_X11_168 (by decide) rfl (stS hΩ 35 rfl) rfl ?_
    refine g_iload_n hX (dc_X11_drop 10 rfl) rfl 1 rfl ?_
    refine g_chk (fun hc8 => ?_)
    refine g_iald hX (dc_X11_drop 11 rfl) (stS hΩ 36 rfl) hc8 rfl ?_
    refine g_istore_n (L' := [(2, .int (sI σ 36 (ix x1))), (0, .ref 0), (1, .int x1)]) hX (dc_X11_drop 12 rfl) rfl (by decide) rfl ?_
    refine g_aload_n hX (dc_X11_drop 13 rfl) rfl 1 rfl ?_
    refine g_getF (q := 22) hX (dc_X11_drop 14 rfl) fl_X11_41 (by decide) rfl (stS hΩ 0 rfl) rfl ?_
    refine gVa_WV (As := []) (st := []) hX (dc_X11_drop 15 rfl) ml_X11_224 (con_X10_remember hO hal hΩ σ) (stS hΩ 22 rfl) rfl rfl ⟨by decide, by decide⟩ ⟨by decide, by decide⟩ (Nat.le_of_ble_eq_true rfl) (fun r9 _ => ?_)
    refine g_aload_n hX (dc_X11_drop 16 rfl) rfl 1 rfl ?_
    refine g_getF (q := 22) hX (dc_X11_drop 17 rfl) fl_X11_41 (by decide) rfl (stS hΩ 0 rfl) rfl ?_
    refine g_getF (q := 35) hX (dc_X11_drop 18 rfl) fl_X11_140 (by decide) rfl (stS hΩ 22 rfl) rfl ?_
    refine g_iload_n hX (dc_X11_drop 19 rfl) rfl 2 rfl ?_
    refine gV_WV (As := [.int x1]) (st := []) hX (dc_X11_drop 20 rfl) ml_X11_257 (con_X8_lay hO hΩ 35 x1 r9 (stR hΩ 35 (by decide))) (stS hΩ 35 rfl) rfl rfl ⟨by decide, by decide⟩ ⟨rfl, rfl⟩ ⟨by decide, by decide⟩ (Nat.le_of_ble_eq_true rfl) (fun r10 _ => ?_)
    refine g_iload_n hX (dc_X11_drop 21 rfl) rfl 0 rfl ?_
    exact g_iret hX (dc_X11_drop 22 rfl) rfl rfl (by decide) (by decide)
def f_X11_drop (x1 : Int32) (σ : MS) : Option (Int32 × MS) := b_X11_drop_0  x1 σ
theorem con_X11_drop {Ω : OM} (hO : OKO Ω) (hal : oAl Ω) (hΩ : oSH Ω = SHX) (x1 : Int32) (σ : MS)  : Con Ω yX11_drop cX11_drop 3 (some .int) rm_X11_drop (emWI) [.ref 0, .int x1] σ (f_X11_drop x1 σ) :=
  con_of hO (by decide +kernel) (Nat.le_of_ble_eq_true rfl) rfl (fun X hX hn => c_X11_drop_0 hX hO hal hΩ   x1 σ )
def it_X11_chains : List (Nat × Instr × Nat × Nat) := [(0, .aload_n 0, 1, 1), (1, .getfield 41, 3, 4), (4, .getfield 51, 3, 7), (7, .getfield 220, 3, 10), (10, .ifCond .eq 13, 3, 13), (13, .iload_n 1, 1, 14), (14, .ifCond .lt 9, 3, 17), (17, .iload_n 1, 1, 18), (18, .bipush 7, 2, 20), (20, .if_icmp .le 6, 3, 23), (23, .bipush (-3), 2, 25), (25, .ireturn, 1, 26), (26, .iload_n 1, 1, 27), (27, .iconst 1, 1, 28), (28, .if_icmp .le 16, 3, 31), (31, .aload_n 0, 1, 32), (32, .iload_n 1, 1, 33), (33, .iconst 2, 1, 34), (34, .isub, 1, 35), (35, .invokevirtual 162, 3, 38), (38, .ifCond .ne 6, 3, 41), (41, .bipush (-2), 2, 43), (43, .ireturn, 1, 44), (44, .aload_n 0, 1, 45), (45, .getfield 79, 3, 48), (48, .aload_n 0, 1, 49), (49, .getfield 41, 3, 52), (52, .getfield 51, 3, 55), (55, .invokevirtual 295, 3, 58), (58, .iload_n 1, 1, 59), (59, .lookupswitch 48 #[(0, 25), (1, 33)], 25, 84), (84, .aload_n 0, 1, 85), (85, .getfield 79, 3, 88), (88, .getfield 298, 3, 91), (91, .ireturn, 1, 92), (92, .aload_n 0, 1, 93), (93, .getfield 79, 3, 96), (96, .aload_n 0, 1, 97), (97, .getfield 41, 3, 100), (100, .getfield 51, 3, 103), (103, .invokevirtual 301, 3, 106), (106, .ireturn, 1, 107), (107, .aload_n 0, 1, 108), (108, .getfield 79, 3, 111), (111, .getfield 305, 3, 114), (114, .iload_n 1, 1, 115), (115, .iconst 2, 1, 116), (116, .isub, 1, 117), (117, .iaload, 1, 118), (118, .ireturn, 1, 119)]
theorem id_X11_chains : ∀ q ∈ it_X11_chains, decode cX11_chains q.1 = .ok (q.2.1, q.2.2.1) ∧ q.1 + q.2.2.1 = q.2.2.2 := by decide +kernel
theorem dc_X11_chains {pc : Nat} {i : Instr} {n pc' : Nat} (j : Nat) (h : it_X11_chains[j]? = some (pc, i, n, pc')) : Dc cX11_chains pc i n pc' := dc_of id_X11_chains j h
abbrev rm_X11_chains : Room := { frames := 12, cells := 0, slots := 0, locals := 1047 }
def b_X11_chains_44    (y1 : Int32) (σ : MS) : Option (Int32 × MS) := (f_X0_solve σ).bind (fun r12 => (if y1 = (0 : Int32) then some ((sI r12 52 2), r12) else (if y1 = (1 : Int32) then (f_X0_cost r12).bind (fun r15 => some (r15, r12)) else chk (inb (y1 - (2 : Int32)) 6) (some ((sI r12 54 (ix (y1 - (2 : Int32)))), r12)))))
set_option maxHeartbeats 4000000 in
set_option maxRecDepth 20000 in
theorem c_X11_chains_44 {X : CX} {Ω : OM} (hX : CF X Ω RX11 cX11_chains 2 (some .int) rm_X11_chains) (hO : OKO Ω) (hΩ : oSH Ω = SHX)     (y1 : Int32) (σ : MS)  : GE X Ω 2 0 0 (emWI) 0 0 44 [(0, .ref 0), (1, .int y1)] [] σ (b_X11_chains_44  y1 σ) := by
  unfold b_X11_chains_44
  refine g_aload_n hX (dc_X11_chains 23 rfl) rfl 0 rfl ?_
  refine g_getF (q := 52) hX (dc_X11_chains 24 rfl) fl_X11_79 (by decide) rfl (stS hΩ 0 rfl) rfl ?_
  refine g_aload_n hX (dc_X11_chains 25 rfl) rfl 0 rfl ?_
  refine g_getF (q := 22) hX (dc_X11_chains 26 rfl) fl_X11_41 (by decide) rfl (stS hΩ 0 rfl) rfl ?_
  refine g_getF (q := 23) hX (dc_X11_chains 27 rfl) fl_X11_51 (by decide) rfl (stS hΩ 22 rfl) rfl ?_
  refine gV_WV (As := [.ref 23]) (st := []) hX (dc_X11_chains 28 rfl) ml_X11_295 (con_X0_solve hO hΩ σ) (stS hΩ 52 rfl) rfl rfl ⟨by decide, by decide⟩ ⟨rfl, rfl⟩ ⟨Nat.zero_le _, Nat.zero_le _⟩ (Nat.le_of_ble_eq_true rfl) (fun r12 _ => ?_)
  refine g_iload_n hX (dc_X11_chains 29 rfl) rfl 1 rfl ?_
  refine g_ite (fun h13 => ?_) (fun h13 => ?_)
  · refine g_lks (off := 25) (tgt := 84) hX (dc_X11_chains 30 rfl) (by decide) (by rw [h13]; decide) (by decide) ?_
    refine g_aload_n hX (dc_X11_chains 31 rfl) rfl 0 rfl ?_
    refine g_getF (q := 52) hX (dc_X11_chains 32 rfl) fl_X11_79 (by decide) rfl (stS hΩ 0 rfl) rfl ?_
    refine g_getI hX (dc_X11_chains 33 rfl) fl_X11_298 (by decide) rfl (stS hΩ 52 rfl) ?_
    exact g_iret hX (dc_X11_chains 34 rfl) rfl rfl (Nat.le_refl _) (Nat.le_refl _)
  · refine g_ite (fun h14 => ?_) (fun h14 => ?_)
    · refine g_lks (off := 33) (tgt := 92) hX (dc_X11_chains 30 rfl) (by decide) (by rw [h14]; decide) (by decide) ?_
      refine g_aload_n hX (dc_X11_chains 35 rfl) rfl 0 rfl ?_
      refine g_getF (q := 52) hX (dc_X11_chains 36 rfl) fl_X11_79 (by decide) rfl (stS hΩ 0 rfl) rfl ?_
      refine g_aload_n hX (dc_X11_chains 37 rfl) rfl 0 rfl ?_
      refine g_getF (q := 22) hX (dc_X11_chains 38 rfl) fl_X11_41 (by decide) rfl (stS hΩ 0 rfl) rfl ?_
      refine g_getF (q := 23) hX (dc_X11_chains 39 rfl) fl_X11_51 (by decide) rfl (stS hΩ 22 rfl) rfl ?_
      refine gV_PI (As := [.ref 23]) (st := []) hX (dc_X11_chains 40 rfl) ml_X11_301 (con_X0_cost hO hΩ r12) (stS hΩ 52 rfl) rfl rfl ⟨by decide, by decide⟩ ⟨rfl, rfl⟩ ⟨Nat.zero_le _, Nat.zero_le _⟩ (Nat.le_of_ble_eq_true rfl) (fun r15 _ => ?_)
      exact g_iret hX (dc_X11_chains 41 rfl) rfl rfl (Nat.le_refl _) (Nat.le_refl _)
    · refine g_lks (off := 48) (tgt := 107) hX (dc_X11_chains 30 rfl) (by decide) (by have e0 := i32ne h13 (k := 0) (by decide); have e1 := i32ne h14 (k := 1) (by decide); simp [Op.lookupswitch.offset, e0, Ne.symm e0, e1, Ne.symm e1]) (by decide) ?_
      refine g_aload_n hX (dc_X11_chains 42 rfl) rfl 0 rfl ?_
      refine g_getF (q := 52) hX (dc_X11_chains 43 rfl) fl_X11_79 (by decide) rfl (stS hΩ 0 rfl) rfl ?_
      refine g_getF (q := 54) hX (dc_X11_chains 44 rfl) fl_X11_305 (by decide) rfl (stS hΩ 52 rfl) rfl ?_
      refine g_iload_n hX (dc_X11_chains 45 rfl) rfl 1 rfl ?_
      refine g_iconst (w := (2 : Int32)) hX (dc_X11_chains 46 rfl) (by decide) ?_
      refine g_isub hX (dc_X11_chains 47 rfl) ?_
      refine g_chk (fun hc16 => ?_)
      refine g_iald hX (dc_X11_chains 48 rfl) (stS hΩ 54 rfl) hc16 rfl ?_
      exact g_iret hX (dc_X11_chains 49 rfl) rfl rfl (Nat.le_refl _) (Nat.le_refl _)
def b_X11_chains_23     (σ : MS) : Option (Int32 × MS) := some ((-3 : Int32), σ)
set_option maxHeartbeats 4000000 in
set_option maxRecDepth 20000 in
theorem c_X11_chains_23 {X : CX} {Ω : OM} (hX : CF X Ω RX11 cX11_chains 2 (some .int) rm_X11_chains) (hO : OKO Ω) (hΩ : oSH Ω = SHX)      (σ : MS)  : GE X Ω 2 0 0 (emWI) 0 0 23 [] [] σ (b_X11_chains_23  σ) := by
  unfold b_X11_chains_23
  refine g_bipush (w := (-3 : Int32)) hX (dc_X11_chains 10 rfl) (by decide) ?_
  exact g_iret hX (dc_X11_chains 11 rfl) rfl rfl (Nat.le_refl _) (Nat.le_refl _)
def b_X11_chains_0   (x1 : Int32)  (σ : MS) : Option (Int32 × MS) := (if (sI σ 23 0) = 0 then (b_X11_chains_23 σ) else (if x1 < 0 then (b_X11_chains_23 σ) else (if x1 ≤ (7 : Int32) then (if x1 ≤ (1 : Int32) then (b_X11_chains_44 (x1) σ) else (f_X11_isWork (x1 - (2 : Int32)) σ).bind (fun r21 => (if r21 = 0 then some ((-2 : Int32), σ) else (b_X11_chains_44 (x1) σ)))) else (b_X11_chains_23 σ))))
set_option maxHeartbeats 4000000 in
set_option maxRecDepth 20000 in
theorem c_X11_chains_0 {X : CX} {Ω : OM} (hX : CF X Ω RX11 cX11_chains 2 (some .int) rm_X11_chains) (hO : OKO Ω) (hΩ : oSH Ω = SHX)    (x1 : Int32)  (σ : MS)  : GE X Ω 2 0 0 (emWI) 0 0 0 [(0, .ref 0), (1, .int x1)] [] σ (b_X11_chains_0  x1 σ) := by
  unfold b_X11_chains_0
  refine g_aload_n hX (dc_X11_chains 0 rfl) rfl 0 rfl ?_
  refine g_getF (q := 22) hX (dc_X11_chains 1 rfl) fl_X11_41 (by decide) rfl (stS hΩ 0 rfl) rfl ?_
  refine g_getF (q := 23) hX (dc_X11_chains 2 rfl) fl_X11_51 (by decide) rfl (stS hΩ 22 rfl) rfl ?_
  refine g_getI hX (dc_X11_chains 3 rfl) fl_X11_220 (by decide) rfl (stS hΩ 23 rfl) ?_
  refine g_if_eq (tgt := 23) hX (dc_X11_chains 4 rfl) (by decide) (fun h17 => ?_) (fun h17 => ?_)
  · exact g_sub [] rfl (c_X11_chains_23 hX hO hΩ σ)
  · refine g_iload_n hX (dc_X11_chains 5 rfl) rfl 1 rfl ?_
    refine g_if_lt (tgt := 23) hX (dc_X11_chains 6 rfl) (by decide) (fun h18 => ?_) (fun h18 => ?_)
    · exact g_sub [] rfl (c_X11_chains_23 hX hO hΩ σ)
    · refine g_iload_n hX (dc_X11_chains 7 rfl) rfl 1 rfl ?_
      refine g_bipush (w := (7 : Int32)) hX (dc_X11_chains 8 rfl) (by decide) ?_
      refine g_icmp_le (tgt := 26) hX (dc_X11_chains 9 rfl) (by decide) (fun h19 => ?_) (fun h19 => ?_)
      · refine g_iload_n hX (dc_X11_chains 12 rfl) rfl 1 rfl ?_
        refine g_iconst (w := (1 : Int32)) hX (dc_X11_chains 13 rfl) (by decide) ?_
        refine g_icmp_le (tgt := 44) hX (dc_X11_chains 14 rfl) (by decide) (fun h20 => ?_) (fun h20 => ?_)
        · exact g_sub [0, 1] rfl (c_X11_chains_44 hX hO hΩ (x1) σ)
        · refine g_aload_n hX (dc_X11_chains 15 rfl) rfl 0 rfl ?_
          refine g_iload_n hX (dc_X11_chains 16 rfl) rfl 1 rfl ?_
          refine g_iconst (w := (2 : Int32)) hX (dc_X11_chains 17 rfl) (by decide) ?_
          refine g_isub hX (dc_X11_chains 18 rfl) ?_
          refine gV_PI (As := [.int (x1 - (2 : Int32))]) (st := []) hX (dc_X11_chains 19 rfl) ml_X11_162 (con_X11_isWork hO hΩ (x1 - (2 : Int32)) σ) (stS hΩ 0 rfl) rfl rfl ⟨by decide, by decide⟩ ⟨rfl, rfl⟩ ⟨Nat.zero_le _, Nat.zero_le _⟩ (Nat.le_of_ble_eq_true rfl) (fun r21 _ => ?_)
          refine g_if_ne (tgt := 44) hX (dc_X11_chains 20 rfl) (by decide) (fun h22 => ?_) (fun h22 => ?_)
          · refine g_bipush (w := (-2 : Int32)) hX (dc_X11_chains 21 rfl) (by decide) ?_
            exact g_iret hX (dc_X11_chains 22 rfl) rfl rfl (Nat.le_refl _) (Nat.le_refl _)
          · exact g_sub [0, 1] rfl (c_X11_chains_44 hX hO hΩ (x1) σ)
      · exact g_sub [] rfl (c_X11_chains_23 hX hO hΩ σ)
def f_X11_chains (x1 : Int32) (σ : MS) : Option (Int32 × MS) := b_X11_chains_0  x1 σ
theorem con_X11_chains {Ω : OM} (hO : OKO Ω) (hΩ : oSH Ω = SHX) (x1 : Int32) (σ : MS)  : Con Ω yX11_chains cX11_chains 2 (some .int) rm_X11_chains (emWI) [.ref 0, .int x1] σ (f_X11_chains x1 σ) :=
  con_of hO (by decide +kernel) (Nat.le_of_ble_eq_true rfl) rfl (fun X hX hn => c_X11_chains_0 hX hO hΩ   x1 σ )
def it_X11_image : List (Nat × Instr × Nat × Nat) := [(0, .iload_n 1, 1, 1), (1, .ifCond .lt 8, 3, 4), (4, .iload_n 1, 1, 5), (5, .iconst 4, 1, 6), (6, .if_icmp .lt 5, 3, 9), (9, .iconst (-1), 1, 10), (10, .ireturn, 1, 11), (11, .aload_n 0, 1, 12), (12, .getfield 45, 3, 15), (15, .iload_n 1, 1, 16), (16, .aaload, 1, 17), (17, .astore_n 2, 1, 18), (18, .aload_n 2, 1, 19), (19, .ifnonnull 18, 3, 22), (22, .new 38, 3, 25), (25, .dup, 1, 26), (26, .invokespecial 40, 3, 29), (29, .astore_n 2, 1, 30), (30, .aload_n 0, 1, 31), (31, .getfield 45, 3, 34), (34, .iload_n 1, 1, 35), (35, .aload_n 2, 1, 36), (36, .aastore, 1, 37), (37, .aload_n 2, 1, 38), (38, .aload_n 0, 1, 39), (39, .getfield 41, 3, 42), (42, .invokevirtual 367, 3, 45), (45, .aload_n 0, 1, 46), (46, .getfield 41, 3, 49), (49, .getfield 140, 3, 52), (52, .getfield 192, 3, 55), (55, .ireturn, 1, 56)]
theorem id_X11_image : ∀ q ∈ it_X11_image, decode cX11_image q.1 = .ok (q.2.1, q.2.2.1) ∧ q.1 + q.2.2.1 = q.2.2.2 := by decide +kernel
theorem dc_X11_image {pc : Nat} {i : Instr} {n pc' : Nat} (j : Nat) (h : it_X11_image[j]? = some (pc, i, n, pc')) : Dc cX11_image pc i n pc' := dc_of id_X11_image j h
abbrev rm_X11_image : Room := { frames := 4, cells := 105, slots := 614, locals := 126 }
def b_X11_image_37    (p2 : Nat) (σ : MS) : Option (Int32 × MS) := @chk (dRt σ p2 shWorld) (dec_dRt σ p2 shWorld) _ ((f_X10_copyFrom p2 22 σ).bind (fun r14 => some ((sI r14 35 5), r14)))
set_option maxHeartbeats 4000000 in
set_option maxRecDepth 20000 in
theorem c_X11_image_37 {X : CX} {Ω : OM} (hX : CF X Ω RX11 cX11_image 3 (some .int) rm_X11_image) (hO : OKO Ω) (hal : oAl Ω) (hΩ : oSH Ω = SHX)     (p2 : Nat) (σ : MS)  : GE X Ω 3 105 614 (emWI) 21 152 37 [(0, .ref 0), (2, .ref p2)] [] σ (b_X11_image_37  p2 σ) := by
  unfold b_X11_image_37
  refine g_chkd (fun ho13 => ?_)
  refine g_aload_n hX (dc_X11_image 23 rfl) rfl 1 rfl ?_
  refine g_aload_n hX (dc_X11_image 24 rfl) rfl 0 rfl ?_
  refine g_getF (q := 22) hX (dc_X11_image 25 rfl) fl_X11_41 (by decide) rfl (stS hΩ 0 rfl) rfl ?_
  refine gVa_WV (As := [.ref 22]) (st := []) hX (dc_X11_image 26 rfl) ml_X11_367 (con_X10_copyFrom hO hal hΩ p2 22 σ (ho13.t) (stR hΩ 22 (by decide)).t) ((ho13.t) 0 _ rfl) rfl rfl ⟨by decide, by decide⟩ ⟨by decide, by decide⟩ (Nat.le_of_ble_eq_true rfl) (fun r14 _ => ?_)
  refine g_aload_n hX (dc_X11_image 27 rfl) rfl 0 rfl ?_
  refine g_getF (q := 22) hX (dc_X11_image 28 rfl) fl_X11_41 (by decide) rfl (stS hΩ 0 rfl) rfl ?_
  refine g_getF (q := 35) hX (dc_X11_image 29 rfl) fl_X11_140 (by decide) rfl (stS hΩ 22 rfl) rfl ?_
  refine g_getI hX (dc_X11_image 30 rfl) fl_X11_192 (by decide) rfl (stS hΩ 35 rfl) ?_
  exact g_iret hX (dc_X11_image 31 rfl) rfl rfl (by decide) (by decide)
def b_X11_image_9     (σ : MS) : Option (Int32 × MS) := some ((-1 : Int32), σ)
set_option maxHeartbeats 4000000 in
set_option maxRecDepth 20000 in
theorem c_X11_image_9 {X : CX} {Ω : OM} (hX : CF X Ω RX11 cX11_image 3 (some .int) rm_X11_image) (hO : OKO Ω) (hal : oAl Ω) (hΩ : oSH Ω = SHX)      (σ : MS)  : GE X Ω 3 105 614 (emWI) 0 0 9 [] [] σ (b_X11_image_9  σ) := by
  unfold b_X11_image_9
  refine g_iconst (w := (-1 : Int32)) hX (dc_X11_image 5 rfl) (by decide) ?_
  exact g_iret hX (dc_X11_image 6 rfl) rfl rfl (by decide) (by decide)
def b_X11_image_0   (x1 : Int32)  (σ : MS) : Option (Int32 × MS) := (if x1 < 0 then (b_X11_image_9 σ) else (if x1 < (4 : Int32) then chk (inb x1 4) ((onr (sR σ 43 (ix x1)) (chk (sN σ < 1000000) ((f_X10_init (sN σ) (al σ (30 + 10) 0)).bind (fun r22 => @chk (tfd r22 (sN σ) (10 + 10, 0)) (dec_tfd r22 (sN σ) (10 + 10, 0)) _ (chk (inb x1 4) ((b_X11_image_37 ((sN σ)) (wR r22 43 (ix x1) (some (sN σ))))))))) (fun b18 => @chk (dRt σ b18 shWorld) (dec_dRt σ b18 shWorld) _ ((b_X11_image_37 (b18) σ))))) else (b_X11_image_9 σ)))
set_option maxHeartbeats 4000000 in
set_option maxRecDepth 20000 in
theorem c_X11_image_0 {X : CX} {Ω : OM} (hX : CF X Ω RX11 cX11_image 3 (some .int) rm_X11_image) (hO : OKO Ω) (hal : oAl Ω) (hΩ : oSH Ω = SHX)    (x1 : Int32)  (σ : MS)  : GE X Ω 3 105 614 (emWI) 0 0 0 [(0, .ref 0), (1, .int x1)] [] σ (b_X11_image_0  x1 σ) := by
  unfold b_X11_image_0
  refine g_iload_n hX (dc_X11_image 0 rfl) rfl 1 rfl ?_
  refine g_if_lt (tgt := 9) hX (dc_X11_image 1 rfl) (by decide) (fun h15 => ?_) (fun h15 => ?_)
  · refine g_widen (u' := 0) (v' := 0) (by decide) (by decide) ?_
    exact g_sub [] rfl (c_X11_image_9 hX hO hal hΩ σ)
  · refine g_iload_n hX (dc_X11_image 2 rfl) rfl 1 rfl ?_
    refine g_iconst (w := (4 : Int32)) hX (dc_X11_image 3 rfl) (by decide) ?_
    refine g_icmp_lt (tgt := 11) hX (dc_X11_image 4 rfl) (by decide) (fun h16 => ?_) (fun h16 => ?_)
    · refine g_aload_n hX (dc_X11_image 7 rfl) rfl 0 rfl ?_
      refine g_getF (q := 43) hX (dc_X11_image 8 rfl) fl_X11_45 (by decide) rfl (stS hΩ 0 rfl) rfl ?_
      refine g_iload_n hX (dc_X11_image 9 rfl) rfl 1 rfl ?_
      refine g_chk (fun hc17 => ?_)
      refine g_aald hX (dc_X11_image 10 rfl) (stS hΩ 43 rfl) ⟨by decide, by decide⟩ rfl hc17 rfl (fun _ => ?_) (fun b18 hb19 => ?_)
      · refine g_astoreN_n (L' := [(2, .null), (0, .ref 0), (1, .int x1)]) hX (dc_X11_image 11 rfl) rfl (by decide) rfl ?_
        refine g_aloadN_n hX (dc_X11_image 12 rfl) rfl 0 rfl ?_
        refine g_ifnonnull_N (tgt := 0) hX (dc_X11_image 13 rfl) ?_
        refine g_chk (fun hl20 => ?_)
        refine g_new (ci := 10) hX hal hl20 (dc_X11_image 14 rfl) wl_X11_38 wb_X10 wn_X10 (by decide) (by decide) (by decide) (fun hq21 => ?_)
        refine g_dup hX (dc_X11_image 15 rfl) rfl ?_
        refine gN_WV (As := []) (st := [.ref (sN σ)]) hX (dc_X11_image 16 rfl) (by decide +kernel : Cond.methodLinkNest RX11 40 yX10_init "StampDuchy" ∈ nestL) ⟨wn_X10, wc_X10_init, by decide, by decide, by decide +kernel⟩ wi_X10_init rfl (con_X10_init hO hal (sN σ) (al σ (30 + 10) 0) tf_new hq21) rfl rfl ⟨by decide, by decide⟩ ⟨by decide, by decide⟩ (Nat.le_of_ble_eq_true rfl) (fun r22 _ => ?_)
        refine g_astore_n (L' := [(2, .ref (sN σ)), (0, .ref 0), (1, .int x1)]) hX (dc_X11_image 17 rfl) rfl (by decide) rfl ?_
        refine g_aload_n hX (dc_X11_image 18 rfl) rfl 1 rfl ?_
        refine g_getF (q := 43) hX (dc_X11_image 19 rfl) fl_X11_45 (by decide) rfl (stS hΩ 0 rfl) rfl ?_
        refine g_iload_n hX (dc_X11_image 20 rfl) rfl 2 rfl ?_
        refine g_aload_n hX (dc_X11_image 21 rfl) rfl 0 rfl ?_
        refine g_chkd (fun ht24 => ?_)
        refine g_chk (fun hc23 => ?_)
        refine g_aast (ci := 10) hX (dc_X11_image 22 rfl) (stS hΩ 43 rfl) ⟨by decide, by decide⟩ rfl (by decide) ht24.t hc23 rfl ?_
        refine g_widen (u' := 21) (v' := 152) (by decide) (by decide) ?_
        exact g_sub [1, 0] rfl (c_X11_image_37 hX hO hal hΩ ((sN σ)) (wR r22 43 (ix x1) (some (sN σ))))
      · refine g_chkd (fun ho25 => ?_)
        refine g_astore_n (L' := [(2, .ref b18), (0, .ref 0), (1, .int x1)]) hX (dc_X11_image 11 rfl) rfl (by decide) rfl ?_
        refine g_aload_n hX (dc_X11_image 12 rfl) rfl 0 rfl ?_
        refine g_ifnonnull_R (tgt := 37) hX (dc_X11_image 13 rfl) (by decide) ?_
        refine g_widen (u' := 21) (v' := 152) (by decide) (by decide) ?_
        exact g_sub [1, 0] rfl (c_X11_image_37 hX hO hal hΩ (b18) σ)
    · refine g_widen (u' := 0) (v' := 0) (by decide) (by decide) ?_
      exact g_sub [] rfl (c_X11_image_9 hX hO hal hΩ σ)
def f_X11_image (x1 : Int32) (σ : MS) : Option (Int32 × MS) := b_X11_image_0  x1 σ
theorem con_X11_image {Ω : OM} (hO : OKO Ω) (hal : oAl Ω) (hΩ : oSH Ω = SHX) (x1 : Int32) (σ : MS)  : Con Ω yX11_image cX11_image 3 (some .int) rm_X11_image (emWI) [.ref 0, .int x1] σ (f_X11_image x1 σ) :=
  con_of hO (by decide +kernel) (Nat.le_of_ble_eq_true rfl) rfl (fun X hX hn => c_X11_image_0 hX hO hal hΩ   x1 σ )
def it_X11_back : List (Nat × Instr × Nat × Nat) := [(0, .iload_n 1, 1, 1), (1, .ifCond .lt 17, 3, 4), (4, .iload_n 1, 1, 5), (5, .iconst 4, 1, 6), (6, .if_icmp .ge 12, 3, 9), (9, .aload_n 0, 1, 10), (10, .getfield 45, 3, 13), (13, .iload_n 1, 1, 14), (14, .aaload, 1, 15), (15, .ifnonnull 5, 3, 18), (18, .iconst (-1), 1, 19), (19, .ireturn, 1, 20), (20, .aload_n 0, 1, 21), (21, .getfield 41, 3, 24), (24, .aload_n 0, 1, 25), (25, .getfield 45, 3, 28), (28, .iload_n 1, 1, 29), (29, .aaload, 1, 30), (30, .invokevirtual 367, 3, 33), (33, .aload_n 0, 1, 34), (34, .getfield 41, 3, 37), (37, .getfield 140, 3, 40), (40, .getfield 192, 3, 43), (43, .ireturn, 1, 44)]
theorem id_X11_back : ∀ q ∈ it_X11_back, decode cX11_back q.1 = .ok (q.2.1, q.2.2.1) ∧ q.1 + q.2.2.1 = q.2.2.2 := by decide +kernel
theorem dc_X11_back {pc : Nat} {i : Instr} {n pc' : Nat} (j : Nat) (h : it_X11_back[j]? = some (pc, i, n, pc')) : Dc cX11_back pc i n pc' := dc_of id_X11_back j h
abbrev rm_X11_back : Room := { frames := 4, cells := 84, slots := 462, locals := 126 }
def b_X11_back_18     (σ : MS) : Option (Int32 × MS) := some ((-1 : Int32), σ)
set_option maxHeartbeats 4000000 in
set_option maxRecDepth 20000 in
theorem c_X11_back_18 {X : CX} {Ω : OM} (hX : CF X Ω RX11 cX11_back 2 (some .int) rm_X11_back) (hO : OKO Ω) (hal : oAl Ω) (hΩ : oSH Ω = SHX)      (σ : MS)  : GE X Ω 2 84 462 (emWI) 0 0 18 [] [] σ (b_X11_back_18  σ) := by
  unfold b_X11_back_18
  refine g_iconst (w := (-1 : Int32)) hX (dc_X11_back 10 rfl) (by decide) ?_
  exact g_iret hX (dc_X11_back 11 rfl) rfl rfl (by decide) (by decide)
def b_X11_back_0   (x1 : Int32)  (σ : MS) : Option (Int32 × MS) := (if x1 < 0 then (b_X11_back_18 σ) else (if (4 : Int32) ≤ x1 then (b_X11_back_18 σ) else chk (inb x1 4) ((onr (sR σ 43 (ix x1)) ((b_X11_back_18 σ)) (fun b15 => @chk (dRt σ b15 shWorld) (dec_dRt σ b15 shWorld) _ (chk (inb x1 4) ((onr (sR σ 43 (ix x1)) (none) (fun b19 => @chk (dRt σ b19 shWorld) (dec_dRt σ b19 shWorld) _ ((f_X10_copyFrom 22 b19 σ).bind (fun r22 => some ((sI r22 35 5), r22))))))))))))
set_option maxHeartbeats 4000000 in
set_option maxRecDepth 20000 in
theorem c_X11_back_0 {X : CX} {Ω : OM} (hX : CF X Ω RX11 cX11_back 2 (some .int) rm_X11_back) (hO : OKO Ω) (hal : oAl Ω) (hΩ : oSH Ω = SHX)    (x1 : Int32)  (σ : MS)  : GE X Ω 2 84 462 (emWI) 0 0 0 [(0, .ref 0), (1, .int x1)] [] σ (b_X11_back_0  x1 σ) := by
  unfold b_X11_back_0
  refine g_iload_n hX (dc_X11_back 0 rfl) rfl 1 rfl ?_
  refine g_if_lt (tgt := 18) hX (dc_X11_back 1 rfl) (by decide) (fun h12 => ?_) (fun h12 => ?_)
  · refine g_widen (u' := 0) (v' := 0) (by decide) (by decide) ?_
    exact g_sub [] rfl (c_X11_back_18 hX hO hal hΩ σ)
  · refine g_iload_n hX (dc_X11_back 2 rfl) rfl 1 rfl ?_
    refine g_iconst (w := (4 : Int32)) hX (dc_X11_back 3 rfl) (by decide) ?_
    refine g_icmp_ge (tgt := 18) hX (dc_X11_back 4 rfl) (by decide) (fun h13 => ?_) (fun h13 => ?_)
    · refine g_widen (u' := 0) (v' := 0) (by decide) (by decide) ?_
      exact g_sub [] rfl (c_X11_back_18 hX hO hal hΩ σ)
    · refine g_aload_n hX (dc_X11_back 5 rfl) rfl 0 rfl ?_
      refine g_getF (q := 43) hX (dc_X11_back 6 rfl) fl_X11_45 (by decide) rfl (stS hΩ 0 rfl) rfl ?_
      refine g_iload_n hX (dc_X11_back 7 rfl) rfl 1 rfl ?_
      refine g_chk (fun hc14 => ?_)
      refine g_aald hX (dc_X11_back 8 rfl) (stS hΩ 43 rfl) ⟨by decide, by decide⟩ rfl hc14 rfl (fun _ => ?_) (fun b15 hb16 => ?_)
      · refine g_ifnonnull_N (tgt := 0) hX (dc_X11_back 9 rfl) ?_
        refine g_widen (u' := 0) (v' := 0) (by decide) (by decide) ?_
        exact g_sub [] rfl (c_X11_back_18 hX hO hal hΩ σ)
      · refine g_chkd (fun ho17 => ?_)
        refine g_ifnonnull_R (tgt := 20) hX (dc_X11_back 9 rfl) (by decide) ?_
        refine g_aload_n hX (dc_X11_back 12 rfl) rfl 0 rfl ?_
        refine g_getF (q := 22) hX (dc_X11_back 13 rfl) fl_X11_41 (by decide) rfl (stS hΩ 0 rfl) rfl ?_
        refine g_aload_n hX (dc_X11_back 14 rfl) rfl 0 rfl ?_
        refine g_getF (q := 43) hX (dc_X11_back 15 rfl) fl_X11_45 (by decide) rfl (stS hΩ 0 rfl) rfl ?_
        refine g_iload_n hX (dc_X11_back 16 rfl) rfl 1 rfl ?_
        refine g_chk (fun hc18 => ?_)
        refine g_aald hX (dc_X11_back 17 rfl) (stS hΩ 43 rfl) ⟨by decide, by decide⟩ rfl hc18 rfl (fun _ => ?_) (fun b19 hb20 => ?_)
        · exact g_none
        · refine g_chkd (fun ho21 => ?_)
          refine gVa_WV (As := [.ref b19]) (st := []) hX (dc_X11_back 18 rfl) ml_X11_367 (con_X10_copyFrom hO hal hΩ 22 b19 σ (stR hΩ 22 (by decide)).t (ho21.t)) (stS hΩ 22 rfl) rfl rfl ⟨by decide, by decide⟩ ⟨by decide, by decide⟩ (Nat.le_of_ble_eq_true rfl) (fun r22 _ => ?_)
          refine g_aload_n hX (dc_X11_back 19 rfl) rfl 0 rfl ?_
          refine g_getF (q := 22) hX (dc_X11_back 20 rfl) fl_X11_41 (by decide) rfl (stS hΩ 0 rfl) rfl ?_
          refine g_getF (q := 35) hX (dc_X11_back 21 rfl) fl_X11_140 (by decide) rfl (stS hΩ 22 rfl) rfl ?_
          refine g_getI hX (dc_X11_back 22 rfl) fl_X11_192 (by decide) rfl (stS hΩ 35 rfl) ?_
          exact g_iret hX (dc_X11_back 23 rfl) rfl rfl (by decide) (by decide)
def f_X11_back (x1 : Int32) (σ : MS) : Option (Int32 × MS) := b_X11_back_0  x1 σ
theorem con_X11_back {Ω : OM} (hO : OKO Ω) (hal : oAl Ω) (hΩ : oSH Ω = SHX) (x1 : Int32) (σ : MS)  : Con Ω yX11_back cX11_back 2 (some .int) rm_X11_back (emWI) [.ref 0, .int x1] σ (f_X11_back x1 σ) :=
  con_of hO (by decide +kernel) (Nat.le_of_ble_eq_true rfl) rfl (fun X hX hn => c_X11_back_0 hX hO hal hΩ   x1 σ )
def it_X12_init : List (Nat × Instr × Nat × Nat) := [(0, .aload_n 0, 1, 1), (1, .invokespecial 3, 3, 4), (4, .aload_n 0, 1, 5), (5, .bipush 10, 2, 7), (7, .newarray .int, 2, 9), (9, .dup, 1, 10), (10, .iconst 0, 1, 11), (11, .iconst 0, 1, 12), (12, .iastore, 1, 13), (13, .dup, 1, 14), (14, .iconst 1, 1, 15), (15, .iconst 0, 1, 16), (16, .iastore, 1, 17), (17, .dup, 1, 18), (18, .iconst 2, 1, 19), (19, .iconst 0, 1, 20), (20, .iastore, 1, 21), (21, .dup, 1, 22), (22, .iconst 3, 1, 23), (23, .iconst 0, 1, 24), (24, .iastore, 1, 25), (25, .dup, 1, 26), (26, .iconst 4, 1, 27), (27, .iconst 0, 1, 28), (28, .iastore, 1, 29), (29, .dup, 1, 30), (30, .iconst 5, 1, 31), (31, .iconst 0, 1, 32), (32, .iastore, 1, 33), (33, .dup, 1, 34), (34, .bipush 6, 2, 36), (36, .iconst 0, 1, 37), (37, .iastore, 1, 38), (38, .dup, 1, 39), (39, .bipush 7, 2, 41), (41, .iconst 0, 1, 42), (42, .iastore, 1, 43), (43, .dup, 1, 44), (44, .bipush 8, 2, 46), (46, .iconst 0, 1, 47), (47, .iastore, 1, 48), (48, .dup, 1, 49), (49, .bipush 9, 2, 51), (51, .iconst (-1), 1, 52), (52, .iastore, 1, 53), (53, .putfield 9, 3, 56), (56, .aload_n 0, 1, 57), (57, .iconst 5, 1, 58), (58, .newarray .int, 2, 60), (60, .putfield 13, 3, 63), (63, .aload_n 0, 1, 64), (64, .iconst 5, 1, 65), (65, .newarray .int, 2, 67), (67, .putfield 16, 3, 70), (70, .aload_n 0, 1, 71), (71, .iconst 4, 1, 72), (72, .newarray .int, 2, 74), (74, .putfield 19, 3, 77), (77, .aload_n 0, 1, 78), (78, .iconst 4, 1, 79), (79, .newarray .int, 2, 81), (81, .putfield 22, 3, 84), (84, .aload_n 0, 1, 85), (85, .iconst 4, 1, 86), (86, .newarray .int, 2, 88), (88, .putfield 25, 3, 91), (91, .aload_n 0, 1, 92), (92, .iconst 4, 1, 93), (93, .newarray .int, 2, 95), (95, .putfield 28, 3, 98), (98, .aload_n 0, 1, 99), (99, .bipush 6, 2, 101), (101, .newarray .int, 2, 103), (103, .putfield 31, 3, 106), (106, .aload_n 0, 1, 107), (107, .bipush 6, 2, 109), (109, .newarray .int, 2, 111), (111, .putfield 34, 3, 114), (114, .aload_n 0, 1, 115), (115, .bipush 6, 2, 117), (117, .newarray .int, 2, 119), (119, .putfield 37, 3, 122), (122, .aload_n 0, 1, 123), (123, .bipush 6, 2, 125), (125, .newarray .int, 2, 127), (127, .putfield 40, 3, 130), (130, .aload_n 0, 1, 131), (131, .bipush 10, 2, 133), (133, .newarray .int, 2, 135), (135, .putfield 43, 3, 138), (138, .aload_n 0, 1, 139), (139, .bipush 10, 2, 141), (141, .newarray .int, 2, 143), (143, .putfield 46, 3, 146), (146, .aload_n 0, 1, 147), (147, .bipush 10, 2, 149), (149, .newarray .int, 2, 151), (151, .putfield 49, 3, 154), (154, .aload_n 0, 1, 155), (155, .iconst 4, 1, 156), (156, .newarray .int, 2, 158), (158, .putfield 52, 3, 161), (161, .aload_n 0, 1, 162), (162, .bipush 6, 2, 164), (164, .newarray .int, 2, 166), (166, .putfield 55, 3, 169), (169, .aload_n 0, 1, 170), (170, .iconst 1, 1, 171), (171, .newarray .int, 2, 173), (173, .putfield 58, 3, 176), (176, .aload_n 0, 1, 177), (177, .iconst 5, 1, 178), (178, .newarray .int, 2, 180), (180, .putfield 61, 3, 183), (183, .aload_n 0, 1, 184), (184, .iconst 5, 1, 185), (185, .newarray .int, 2, 187), (187, .putfield 64, 3, 190), (190, .aload_n 0, 1, 191), (191, .iconst 5, 1, 192), (192, .newarray .int, 2, 194), (194, .putfield 67, 3, 197), (197, .aload_n 0, 1, 198), (198, .iconst 4, 1, 199), (199, .newarray .int, 2, 201), (201, .putfield 70, 3, 204), (204, .aload_n 0, 1, 205), (205, .iconst 4, 1, 206), (206, .newarray .int, 2, 208), (208, .putfield 73, 3, 211), (211, .aload_n 0, 1, 212), (212, .iconst 4, 1, 213), (213, .newarray .int, 2, 215), (215, .putfield 76, 3, 218), (218, .aload_n 0, 1, 219), (219, .iconst 4, 1, 220), (220, .newarray .int, 2, 222), (222, .putfield 79, 3, 225), (225, .aload_n 0, 1, 226), (226, .bipush 6, 2, 228), (228, .newarray .int, 2, 230), (230, .putfield 82, 3, 233), (233, .aload_n 0, 1, 234), (234, .bipush 6, 2, 236), (236, .newarray .int, 2, 238), (238, .putfield 85, 3, 241), (241, .aload_n 0, 1, 242), (242, .bipush 6, 2, 244), (244, .newarray .int, 2, 246), (246, .putfield 88, 3, 249), (249, .aload_n 0, 1, 250), (250, .bipush 12, 2, 252), (252, .putfield 91, 3, 255), (255, .aload_n 0, 1, 256), (256, .sipush 400, 3, 259), (259, .newarray .byte, 2, 261), (261, .putfield 95, 3, 264), (264, .aload_n 0, 1, 265), (265, .sipush 1800, 3, 268), (268, .newarray .int, 2, 270), (270, .putfield 99, 3, 273), (273, .aload_n 0, 1, 274), (274, .sipush 1800, 3, 277), (277, .newarray .int, 2, 279), (279, .putfield 102, 3, 282), (282, .aload_n 0, 1, 283), (283, .bipush 6, 2, 285), (285, .newarray .int, 2, 287), (287, .putfield 105, 3, 290), (290, .aload_n 0, 1, 291), (291, .bipush 72, 2, 293), (293, .newarray .int, 2, 295), (295, .putfield 108, 3, 298), (298, .aload_n 0, 1, 299), (299, .bipush 72, 2, 301), (301, .newarray .int, 2, 303), (303, .putfield 111, 3, 306), (306, .aload_n 0, 1, 307), (307, .bipush 72, 2, 309), (309, .newarray .int, 2, 311), (311, .putfield 114, 3, 314), (314, .aload_n 0, 1, 315), (315, .sipush 402, 3, 318), (318, .newarray .int, 2, 320), (320, .putfield 117, 3, 323), (323, .aload_n 0, 1, 324), (324, .bipush 12, 2, 326), (326, .newarray .long, 2, 328), (328, .putfield 120, 3, 331), (331, .aload_n 0, 1, 332), (332, .sipush 300, 3, 335), (335, .newarray .long, 2, 337), (337, .putfield 124, 3, 340), (340, .aload_n 0, 1, 341), (341, .sipush 380, 3, 344), (344, .newarray .int, 2, 346), (346, .putfield 127, 3, 349), (349, .aload_n 0, 1, 350), (350, .iconst 1, 1, 351), (351, .newarray .int, 2, 353), (353, .putfield 130, 3, 356), (356, .aload_n 0, 1, 357), (357, .sipush 196, 3, 360), (360, .newarray .int, 2, 362), (362, .putfield 133, 3, 365), (365, .aload_n 0, 1, 366), (366, .bipush 6, 2, 368), (368, .newarray .int, 2, 370), (370, .putfield 136, 3, 373), (373, .aload_n 0, 1, 374), (374, .bipush 6, 2, 376), (376, .newarray .int, 2, 378), (378, .putfield 139, 3, 381), (381, .aload_n 0, 1, 382), (382, .bipush 6, 2, 384), (384, .newarray .int, 2, 386), (386, .putfield 142, 3, 389), (389, .aload_n 0, 1, 390), (390, .bipush 30, 2, 392), (392, .newarray .int, 2, 394), (394, .putfield 145, 3, 397), (397, .aload_n 0, 1, 398), (398, .sipush 2750, 3, 401), (401, .newarray .int, 2, 403), (403, .putfield 148, 3, 406), (406, .aload_n 0, 1, 407), (407, .iconst 4, 1, 408), (408, .newarray .boolean, 2, 410), (410, .putfield 151, 3, 413), (413, .aload_n 0, 1, 414), (414, .iconst 4, 1, 415), (415, .newarray .boolean, 2, 417), (417, .putfield 155, 3, 420), (420, .return_, 1, 421)]
theorem id_X12_init : ∀ q ∈ it_X12_init, decode cX12_init q.1 = .ok (q.2.1, q.2.2.1) ∧ q.1 + q.2.2.1 = q.2.2.2 := by decide +kernel
theorem dc_X12_init {pc : Nat} {i : Instr} {n pc' : Nat} (j : Nat) (h : it_X12_init[j]? = some (pc, i, n, pc')) : Dc cX12_init pc i n pc' := dc_of id_X12_init j h
abbrev rm_X12_init : Room := { frames := 1, cells := 47, slots := 8469, locals := 20 }
def b_X12_init_406 (a0 : Nat)    (σ : MS) : Option (MS) := chk (sN σ < 1000000) (chk (sN σ + 1 < 1000000) (@chk (finOK (wR (al (wR (al σ 2 4) a0 60 (some (sN σ))) 2 4) a0 61 (some (sN σ + 1))) a0 12) (dec_finOK (wR (al (wR (al σ 2 4) a0 60 (some (sN σ))) 2 4) a0 61 (some (sN σ + 1))) a0 12) _ (some (fin (wR (al (wR (al σ 2 4) a0 60 (some (sN σ))) 2 4) a0 61 (some (sN σ + 1))) a0 12))))
set_option maxHeartbeats 4000000 in
set_option maxRecDepth 20000 in
theorem c_X12_init_406 {X : CX} {Ω : OM} (hX : CF X Ω RX12 cX12_init 1 none rm_X12_init) (hO : OKO Ω) (hal : oAl Ω) (hn : X.2.2.2.2.2.2.2.2.1.name = "<init>") (a0 : Nat) (hs0 : (oSH Ω).length ≤ a0)    (σ : MS) (ha0 : tf Ω σ a0 (30 + 12, 0)) : GE X Ω 1 47 8469 (emWV) 45 8461 406 [(0, .ref a0)] [] σ (b_X12_init_406 a0 σ) := by
  unfold b_X12_init_406
  refine g_aload_n hX (dc_X12_init 225 rfl) rfl 0 rfl ?_
  refine g_iconst (w := (4 : Int32)) hX (dc_X12_init 226 rfl) (by decide) ?_
  refine g_chk (fun hl49 => ?_)
  refine g_newa_boolean (N := 4) hX hal hl49 (dc_X12_init 227 rfl) wa_boolean (by decide) (by decide) (by decide) (by decide) (by decide) ?_
  refine g_putN (raw := true) (r := (some (sN σ))) hX (dc_X12_init 228 rfl) fl_X12_151 (by decide) (Or.inr ⟨rfl, rfl⟩) (fun w => by cases w <;> exact ⟨rfl, rfl⟩) (tf_al ha0) (Or.inr ⟨hn, rfl, rfl⟩) ?_
  refine g_aload_n hX (dc_X12_init 229 rfl) rfl 0 rfl ?_
  refine g_iconst (w := (4 : Int32)) hX (dc_X12_init 230 rfl) (by decide) ?_
  refine g_chk (fun hl50 => ?_)
  refine g_newa_boolean (N := 4) hX hal hl50 (dc_X12_init 231 rfl) wa_boolean (by decide) (by decide) (by decide) (by decide) (by decide) ?_
  refine g_putN (raw := true) (r := (some (sN σ + 1))) hX (dc_X12_init 232 rfl) fl_X12_155 (by decide) (Or.inr ⟨rfl, rfl⟩) (fun w => by cases w <;> exact ⟨rfl, rfl⟩) (tf_al (tf_al ha0)) (Or.inr ⟨hn, rfl, rfl⟩) ?_
  refine g_chkd (fun hf51 => ?_)
  refine g_fin (tf_al (tf_al ha0)) (by decide) hf51 hs0 ?_
  exact g_vret hX (dc_X12_init 233 rfl) rfl (by decide) (by decide)
def b_X12_init_373 (a0 : Nat)    (σ : MS) : Option (MS) := chk (sN σ < 1000000) (chk (sN σ + 1 < 1000000) (chk (sN σ + 2 < 1000000) (chk (sN σ + 3 < 1000000) ((b_X12_init_406 a0 (wR (al (wR (al (wR (al (wR (al σ 0 6) a0 56 (some (sN σ))) 0 6) a0 57 (some (sN σ + 1))) 0 30) a0 58 (some (sN σ + 2))) 0 2750) a0 59 (some (sN σ + 3))))))))
set_option maxHeartbeats 4000000 in
set_option maxRecDepth 20000 in
theorem c_X12_init_373 {X : CX} {Ω : OM} (hX : CF X Ω RX12 cX12_init 1 none rm_X12_init) (hO : OKO Ω) (hal : oAl Ω) (hn : X.2.2.2.2.2.2.2.2.1.name = "<init>") (a0 : Nat) (hs0 : (oSH Ω).length ≤ a0)    (σ : MS) (ha0 : tf Ω σ a0 (30 + 12, 0)) : GE X Ω 1 47 8469 (emWV) 41 5669 373 [(0, .ref a0)] [] σ (b_X12_init_373 a0 σ) := by
  unfold b_X12_init_373
  refine g_aload_n hX (dc_X12_init 209 rfl) rfl 0 rfl ?_
  refine g_bipush (w := (6 : Int32)) hX (dc_X12_init 210 rfl) (by decide) ?_
  refine g_chk (fun hl52 => ?_)
  refine g_newa_int (N := 6) hX hal hl52 (dc_X12_init 211 rfl) wa_int (by decide) (by decide) (by decide) (by decide) (by decide) ?_
  refine g_putN (raw := true) (r := (some (sN σ))) hX (dc_X12_init 212 rfl) fl_X12_139 (by decide) (Or.inr ⟨rfl, rfl⟩) (fun w => by cases w <;> exact ⟨rfl, rfl⟩) (tf_al ha0) (Or.inr ⟨hn, rfl, rfl⟩) ?_
  refine g_aload_n hX (dc_X12_init 213 rfl) rfl 0 rfl ?_
  refine g_bipush (w := (6 : Int32)) hX (dc_X12_init 214 rfl) (by decide) ?_
  refine g_chk (fun hl53 => ?_)
  refine g_newa_int (N := 6) hX hal hl53 (dc_X12_init 215 rfl) wa_int (by decide) (by decide) (by decide) (by decide) (by decide) ?_
  refine g_putN (raw := true) (r := (some (sN σ + 1))) hX (dc_X12_init 216 rfl) fl_X12_142 (by decide) (Or.inr ⟨rfl, rfl⟩) (fun w => by cases w <;> exact ⟨rfl, rfl⟩) (tf_al (tf_al ha0)) (Or.inr ⟨hn, rfl, rfl⟩) ?_
  refine g_aload_n hX (dc_X12_init 217 rfl) rfl 0 rfl ?_
  refine g_bipush (w := (30 : Int32)) hX (dc_X12_init 218 rfl) (by decide) ?_
  refine g_chk (fun hl54 => ?_)
  refine g_newa_int (N := 30) hX hal hl54 (dc_X12_init 219 rfl) wa_int (by decide) (by decide) (by decide) (by decide) (by decide) ?_
  refine g_putN (raw := true) (r := (some (sN σ + 2))) hX (dc_X12_init 220 rfl) fl_X12_145 (by decide) (Or.inr ⟨rfl, rfl⟩) (fun w => by cases w <;> exact ⟨rfl, rfl⟩) (tf_al (tf_al (tf_al ha0))) (Or.inr ⟨hn, rfl, rfl⟩) ?_
  refine g_aload_n hX (dc_X12_init 221 rfl) rfl 0 rfl ?_
  refine g_sipush (w := (2750 : Int32)) hX (dc_X12_init 222 rfl) (by decide) ?_
  refine g_chk (fun hl55 => ?_)
  refine g_newa_int (N := 2750) hX hal hl55 (dc_X12_init 223 rfl) wa_int (by decide) (by decide) (by decide) (by decide) (by decide) ?_
  refine g_putN (raw := true) (r := (some (sN σ + 3))) hX (dc_X12_init 224 rfl) fl_X12_148 (by decide) (Or.inr ⟨rfl, rfl⟩) (fun w => by cases w <;> exact ⟨rfl, rfl⟩) (tf_al (tf_al (tf_al (tf_al ha0)))) (Or.inr ⟨hn, rfl, rfl⟩) ?_
  refine g_widen (u' := 45) (v' := 8461) (by decide) (by decide) ?_
  exact g_sub [0] rfl (c_X12_init_406 hX hO hal hn a0 hs0 (wR (al (wR (al (wR (al (wR (al σ 0 6) a0 56 (some (sN σ))) 0 6) a0 57 (some (sN σ + 1))) 0 30) a0 58 (some (sN σ + 2))) 0 2750) a0 59 (some (sN σ + 3))) (tf_al (tf_al (tf_al (tf_al ha0)))))
def b_X12_init_340 (a0 : Nat)    (σ : MS) : Option (MS) := chk (sN σ < 1000000) (chk (sN σ + 1 < 1000000) (chk (sN σ + 2 < 1000000) (chk (sN σ + 3 < 1000000) ((b_X12_init_373 a0 (wR (al (wR (al (wR (al (wR (al σ 0 380) a0 49 (some (sN σ))) 0 1) a0 50 (some (sN σ + 1))) 0 196) a0 54 (some (sN σ + 2))) 0 6) a0 55 (some (sN σ + 3))))))))
set_option maxHeartbeats 4000000 in
set_option maxRecDepth 20000 in
theorem c_X12_init_340 {X : CX} {Ω : OM} (hX : CF X Ω RX12 cX12_init 1 none rm_X12_init) (hO : OKO Ω) (hal : oAl Ω) (hn : X.2.2.2.2.2.2.2.2.1.name = "<init>") (a0 : Nat) (hs0 : (oSH Ω).length ≤ a0)    (σ : MS) (ha0 : tf Ω σ a0 (30 + 12, 0)) : GE X Ω 1 47 8469 (emWV) 37 5086 340 [(0, .ref a0)] [] σ (b_X12_init_340 a0 σ) := by
  unfold b_X12_init_340
  refine g_aload_n hX (dc_X12_init 193 rfl) rfl 0 rfl ?_
  refine g_sipush (w := (380 : Int32)) hX (dc_X12_init 194 rfl) (by decide) ?_
  refine g_chk (fun hl56 => ?_)
  refine g_newa_int (N := 380) hX hal hl56 (dc_X12_init 195 rfl) wa_int (by decide) (by decide) (by decide) (by decide) (by decide) ?_
  refine g_putN (raw := true) (r := (some (sN σ))) hX (dc_X12_init 196 rfl) fl_X12_127 (by decide) (Or.inr ⟨rfl, rfl⟩) (fun w => by cases w <;> exact ⟨rfl, rfl⟩) (tf_al ha0) (Or.inr ⟨hn, rfl, rfl⟩) ?_
  refine g_aload_n hX (dc_X12_init 197 rfl) rfl 0 rfl ?_
  refine g_iconst (w := (1 : Int32)) hX (dc_X12_init 198 rfl) (by decide) ?_
  refine g_chk (fun hl57 => ?_)
  refine g_newa_int (N := 1) hX hal hl57 (dc_X12_init 199 rfl) wa_int (by decide) (by decide) (by decide) (by decide) (by decide) ?_
  refine g_putN (raw := true) (r := (some (sN σ + 1))) hX (dc_X12_init 200 rfl) fl_X12_130 (by decide) (Or.inr ⟨rfl, rfl⟩) (fun w => by cases w <;> exact ⟨rfl, rfl⟩) (tf_al (tf_al ha0)) (Or.inr ⟨hn, rfl, rfl⟩) ?_
  refine g_aload_n hX (dc_X12_init 201 rfl) rfl 0 rfl ?_
  refine g_sipush (w := (196 : Int32)) hX (dc_X12_init 202 rfl) (by decide) ?_
  refine g_chk (fun hl58 => ?_)
  refine g_newa_int (N := 196) hX hal hl58 (dc_X12_init 203 rfl) wa_int (by decide) (by decide) (by decide) (by decide) (by decide) ?_
  refine g_putN (raw := true) (r := (some (sN σ + 2))) hX (dc_X12_init 204 rfl) fl_X12_133 (by decide) (Or.inr ⟨rfl, rfl⟩) (fun w => by cases w <;> exact ⟨rfl, rfl⟩) (tf_al (tf_al (tf_al ha0))) (Or.inr ⟨hn, rfl, rfl⟩) ?_
  refine g_aload_n hX (dc_X12_init 205 rfl) rfl 0 rfl ?_
  refine g_bipush (w := (6 : Int32)) hX (dc_X12_init 206 rfl) (by decide) ?_
  refine g_chk (fun hl59 => ?_)
  refine g_newa_int (N := 6) hX hal hl59 (dc_X12_init 207 rfl) wa_int (by decide) (by decide) (by decide) (by decide) (by decide) ?_
  refine g_putN (raw := true) (r := (some (sN σ + 3))) hX (dc_X12_init 208 rfl) fl_X12_136 (by decide) (Or.inr ⟨rfl, rfl⟩) (fun w => by cases w <;> exact ⟨rfl, rfl⟩) (tf_al (tf_al (tf_al (tf_al ha0)))) (Or.inr ⟨hn, rfl, rfl⟩) ?_
  refine g_widen (u' := 41) (v' := 5669) (by decide) (by decide) ?_
  exact g_sub [0] rfl (c_X12_init_373 hX hO hal hn a0 hs0 (wR (al (wR (al (wR (al (wR (al σ 0 380) a0 49 (some (sN σ))) 0 1) a0 50 (some (sN σ + 1))) 0 196) a0 54 (some (sN σ + 2))) 0 6) a0 55 (some (sN σ + 3))) (tf_al (tf_al (tf_al (tf_al ha0)))))
def b_X12_init_306 (a0 : Nat)    (σ : MS) : Option (MS) := chk (sN σ < 1000000) (chk (sN σ + 1 < 1000000) (chk (sN σ + 2 < 1000000) (chk (sN σ + 3 < 1000000) ((b_X12_init_340 a0 (wR (al (wR (al (wR (al (wR (al σ 0 72) a0 45 (some (sN σ))) 0 402) a0 46 (some (sN σ + 1))) 3 12) a0 47 (some (sN σ + 2))) 3 300) a0 48 (some (sN σ + 3))))))))
set_option maxHeartbeats 4000000 in
set_option maxRecDepth 20000 in
theorem c_X12_init_306 {X : CX} {Ω : OM} (hX : CF X Ω RX12 cX12_init 1 none rm_X12_init) (hO : OKO Ω) (hal : oAl Ω) (hn : X.2.2.2.2.2.2.2.2.1.name = "<init>") (a0 : Nat) (hs0 : (oSH Ω).length ≤ a0)    (σ : MS) (ha0 : tf Ω σ a0 (30 + 12, 0)) : GE X Ω 1 47 8469 (emWV) 33 4300 306 [(0, .ref a0)] [] σ (b_X12_init_306 a0 σ) := by
  unfold b_X12_init_306
  refine g_aload_n hX (dc_X12_init 177 rfl) rfl 0 rfl ?_
  refine g_bipush (w := (72 : Int32)) hX (dc_X12_init 178 rfl) (by decide) ?_
  refine g_chk (fun hl60 => ?_)
  refine g_newa_int (N := 72) hX hal hl60 (dc_X12_init 179 rfl) wa_int (by decide) (by decide) (by decide) (by decide) (by decide) ?_
  refine g_putN (raw := true) (r := (some (sN σ))) hX (dc_X12_init 180 rfl) fl_X12_114 (by decide) (Or.inr ⟨rfl, rfl⟩) (fun w => by cases w <;> exact ⟨rfl, rfl⟩) (tf_al ha0) (Or.inr ⟨hn, rfl, rfl⟩) ?_
  refine g_aload_n hX (dc_X12_init 181 rfl) rfl 0 rfl ?_
  refine g_sipush (w := (402 : Int32)) hX (dc_X12_init 182 rfl) (by decide) ?_
  refine g_chk (fun hl61 => ?_)
  refine g_newa_int (N := 402) hX hal hl61 (dc_X12_init 183 rfl) wa_int (by decide) (by decide) (by decide) (by decide) (by decide) ?_
  refine g_putN (raw := true) (r := (some (sN σ + 1))) hX (dc_X12_init 184 rfl) fl_X12_117 (by decide) (Or.inr ⟨rfl, rfl⟩) (fun w => by cases w <;> exact ⟨rfl, rfl⟩) (tf_al (tf_al ha0)) (Or.inr ⟨hn, rfl, rfl⟩) ?_
  refine g_aload_n hX (dc_X12_init 185 rfl) rfl 0 rfl ?_
  refine g_bipush (w := (12 : Int32)) hX (dc_X12_init 186 rfl) (by decide) ?_
  refine g_chk (fun hl62 => ?_)
  refine g_newa_long (N := 12) hX hal hl62 (dc_X12_init 187 rfl) wa_long (by decide) (by decide) (by decide) (by decide) (by decide) ?_
  refine g_putN (raw := true) (r := (some (sN σ + 2))) hX (dc_X12_init 188 rfl) fl_X12_120 (by decide) (Or.inr ⟨rfl, rfl⟩) (fun w => by cases w <;> exact ⟨rfl, rfl⟩) (tf_al (tf_al (tf_al ha0))) (Or.inr ⟨hn, rfl, rfl⟩) ?_
  refine g_aload_n hX (dc_X12_init 189 rfl) rfl 0 rfl ?_
  refine g_sipush (w := (300 : Int32)) hX (dc_X12_init 190 rfl) (by decide) ?_
  refine g_chk (fun hl63 => ?_)
  refine g_newa_long (N := 300) hX hal hl63 (dc_X12_init 191 rfl) wa_long (by decide) (by decide) (by decide) (by decide) (by decide) ?_
  refine g_putN (raw := true) (r := (some (sN σ + 3))) hX (dc_X12_init 192 rfl) fl_X12_124 (by decide) (Or.inr ⟨rfl, rfl⟩) (fun w => by cases w <;> exact ⟨rfl, rfl⟩) (tf_al (tf_al (tf_al (tf_al ha0)))) (Or.inr ⟨hn, rfl, rfl⟩) ?_
  refine g_widen (u' := 37) (v' := 5086) (by decide) (by decide) ?_
  exact g_sub [0] rfl (c_X12_init_340 hX hO hal hn a0 hs0 (wR (al (wR (al (wR (al (wR (al σ 0 72) a0 45 (some (sN σ))) 0 402) a0 46 (some (sN σ + 1))) 3 12) a0 47 (some (sN σ + 2))) 3 300) a0 48 (some (sN σ + 3))) (tf_al (tf_al (tf_al (tf_al ha0)))))
def b_X12_init_273 (a0 : Nat)    (σ : MS) : Option (MS) := chk (sN σ < 1000000) (chk (sN σ + 1 < 1000000) (chk (sN σ + 2 < 1000000) (chk (sN σ + 3 < 1000000) ((b_X12_init_306 a0 (wR (al (wR (al (wR (al (wR (al σ 0 1800) a0 41 (some (sN σ))) 0 6) a0 42 (some (sN σ + 1))) 0 72) a0 43 (some (sN σ + 2))) 0 72) a0 44 (some (sN σ + 3))))))))
set_option maxHeartbeats 4000000 in
set_option maxRecDepth 20000 in
theorem c_X12_init_273 {X : CX} {Ω : OM} (hX : CF X Ω RX12 cX12_init 1 none rm_X12_init) (hO : OKO Ω) (hal : oAl Ω) (hn : X.2.2.2.2.2.2.2.2.1.name = "<init>") (a0 : Nat) (hs0 : (oSH Ω).length ≤ a0)    (σ : MS) (ha0 : tf Ω σ a0 (30 + 12, 0)) : GE X Ω 1 47 8469 (emWV) 29 2350 273 [(0, .ref a0)] [] σ (b_X12_init_273 a0 σ) := by
  unfold b_X12_init_273
  refine g_aload_n hX (dc_X12_init 161 rfl) rfl 0 rfl ?_
  refine g_sipush (w := (1800 : Int32)) hX (dc_X12_init 162 rfl) (by decide) ?_
  refine g_chk (fun hl64 => ?_)
  refine g_newa_int (N := 1800) hX hal hl64 (dc_X12_init 163 rfl) wa_int (by decide) (by decide) (by decide) (by decide) (by decide) ?_
  refine g_putN (raw := true) (r := (some (sN σ))) hX (dc_X12_init 164 rfl) fl_X12_102 (by decide) (Or.inr ⟨rfl, rfl⟩) (fun w => by cases w <;> exact ⟨rfl, rfl⟩) (tf_al ha0) (Or.inr ⟨hn, rfl, rfl⟩) ?_
  refine g_aload_n hX (dc_X12_init 165 rfl) rfl 0 rfl ?_
  refine g_bipush (w := (6 : Int32)) hX (dc_X12_init 166 rfl) (by decide) ?_
  refine g_chk (fun hl65 => ?_)
  refine g_newa_int (N := 6) hX hal hl65 (dc_X12_init 167 rfl) wa_int (by decide) (by decide) (by decide) (by decide) (by decide) ?_
  refine g_putN (raw := true) (r := (some (sN σ + 1))) hX (dc_X12_init 168 rfl) fl_X12_105 (by decide) (Or.inr ⟨rfl, rfl⟩) (fun w => by cases w <;> exact ⟨rfl, rfl⟩) (tf_al (tf_al ha0)) (Or.inr ⟨hn, rfl, rfl⟩) ?_
  refine g_aload_n hX (dc_X12_init 169 rfl) rfl 0 rfl ?_
  refine g_bipush (w := (72 : Int32)) hX (dc_X12_init 170 rfl) (by decide) ?_
  refine g_chk (fun hl66 => ?_)
  refine g_newa_int (N := 72) hX hal hl66 (dc_X12_init 171 rfl) wa_int (by decide) (by decide) (by decide) (by decide) (by decide) ?_
  refine g_putN (raw := true) (r := (some (sN σ + 2))) hX (dc_X12_init 172 rfl) fl_X12_108 (by decide) (Or.inr ⟨rfl, rfl⟩) (fun w => by cases w <;> exact ⟨rfl, rfl⟩) (tf_al (tf_al (tf_al ha0))) (Or.inr ⟨hn, rfl, rfl⟩) ?_
  refine g_aload_n hX (dc_X12_init 173 rfl) rfl 0 rfl ?_
  refine g_bipush (w := (72 : Int32)) hX (dc_X12_init 174 rfl) (by decide) ?_
  refine g_chk (fun hl67 => ?_)
  refine g_newa_int (N := 72) hX hal hl67 (dc_X12_init 175 rfl) wa_int (by decide) (by decide) (by decide) (by decide) (by decide) ?_
  refine g_putN (raw := true) (r := (some (sN σ + 3))) hX (dc_X12_init 176 rfl) fl_X12_111 (by decide) (Or.inr ⟨rfl, rfl⟩) (fun w => by cases w <;> exact ⟨rfl, rfl⟩) (tf_al (tf_al (tf_al (tf_al ha0)))) (Or.inr ⟨hn, rfl, rfl⟩) ?_
  refine g_widen (u' := 33) (v' := 4300) (by decide) (by decide) ?_
  exact g_sub [0] rfl (c_X12_init_306 hX hO hal hn a0 hs0 (wR (al (wR (al (wR (al (wR (al σ 0 1800) a0 41 (some (sN σ))) 0 6) a0 42 (some (sN σ + 1))) 0 72) a0 43 (some (sN σ + 2))) 0 72) a0 44 (some (sN σ + 3))) (tf_al (tf_al (tf_al (tf_al ha0)))))
def b_X12_init_233 (a0 : Nat)    (σ : MS) : Option (MS) := chk (sN σ < 1000000) (chk (sN σ + 1 < 1000000) (chk (sN σ + 2 < 1000000) (chk (sN σ + 3 < 1000000) ((b_X12_init_273 a0 (wR (al (wR (al (wI (wR (al (wR (al σ 0 6) a0 26 (some (sN σ))) 0 6) a0 27 (some (sN σ + 1))) a0 38 (12 : Int32)) 1 400) a0 39 (some (sN σ + 2))) 0 1800) a0 40 (some (sN σ + 3))))))))
set_option maxHeartbeats 4000000 in
set_option maxRecDepth 20000 in
theorem c_X12_init_233 {X : CX} {Ω : OM} (hX : CF X Ω RX12 cX12_init 1 none rm_X12_init) (hO : OKO Ω) (hal : oAl Ω) (hn : X.2.2.2.2.2.2.2.2.1.name = "<init>") (a0 : Nat) (hs0 : (oSH Ω).length ≤ a0)    (σ : MS) (ha0 : tf Ω σ a0 (30 + 12, 0)) : GE X Ω 1 47 8469 (emWV) 25 138 233 [(0, .ref a0)] [] σ (b_X12_init_233 a0 σ) := by
  unfold b_X12_init_233
  refine g_aload_n hX (dc_X12_init 142 rfl) rfl 0 rfl ?_
  refine g_bipush (w := (6 : Int32)) hX (dc_X12_init 143 rfl) (by decide) ?_
  refine g_chk (fun hl68 => ?_)
  refine g_newa_int (N := 6) hX hal hl68 (dc_X12_init 144 rfl) wa_int (by decide) (by decide) (by decide) (by decide) (by decide) ?_
  refine g_putN (raw := true) (r := (some (sN σ))) hX (dc_X12_init 145 rfl) fl_X12_85 (by decide) (Or.inr ⟨rfl, rfl⟩) (fun w => by cases w <;> exact ⟨rfl, rfl⟩) (tf_al ha0) (Or.inr ⟨hn, rfl, rfl⟩) ?_
  refine g_aload_n hX (dc_X12_init 146 rfl) rfl 0 rfl ?_
  refine g_bipush (w := (6 : Int32)) hX (dc_X12_init 147 rfl) (by decide) ?_
  refine g_chk (fun hl69 => ?_)
  refine g_newa_int (N := 6) hX hal hl69 (dc_X12_init 148 rfl) wa_int (by decide) (by decide) (by decide) (by decide) (by decide) ?_
  refine g_putN (raw := true) (r := (some (sN σ + 1))) hX (dc_X12_init 149 rfl) fl_X12_88 (by decide) (Or.inr ⟨rfl, rfl⟩) (fun w => by cases w <;> exact ⟨rfl, rfl⟩) (tf_al (tf_al ha0)) (Or.inr ⟨hn, rfl, rfl⟩) ?_
  refine g_aload_n hX (dc_X12_init 150 rfl) rfl 0 rfl ?_
  refine g_bipush (w := (12 : Int32)) hX (dc_X12_init 151 rfl) (by decide) ?_
  refine g_putI (raw := true) hX (dc_X12_init 152 rfl) fl_X12_91 (by decide) ⟨rfl, rfl⟩ ⟨rfl, rfl⟩ (tf_al (tf_al ha0)) ?_
  refine g_aload_n hX (dc_X12_init 153 rfl) rfl 0 rfl ?_
  refine g_sipush (w := (400 : Int32)) hX (dc_X12_init 154 rfl) (by decide) ?_
  refine g_chk (fun hl70 => ?_)
  refine g_newa_byte (N := 400) hX hal hl70 (dc_X12_init 155 rfl) wa_byte (by decide) (by decide) (by decide) (by decide) (by decide) ?_
  refine g_putN (raw := true) (r := (some (sN σ + 2))) hX (dc_X12_init 156 rfl) fl_X12_95 (by decide) (Or.inr ⟨rfl, rfl⟩) (fun w => by cases w <;> exact ⟨rfl, rfl⟩) (tf_al (tf_al (tf_al ha0))) (Or.inr ⟨hn, rfl, rfl⟩) ?_
  refine g_aload_n hX (dc_X12_init 157 rfl) rfl 0 rfl ?_
  refine g_sipush (w := (1800 : Int32)) hX (dc_X12_init 158 rfl) (by decide) ?_
  refine g_chk (fun hl71 => ?_)
  refine g_newa_int (N := 1800) hX hal hl71 (dc_X12_init 159 rfl) wa_int (by decide) (by decide) (by decide) (by decide) (by decide) ?_
  refine g_putN (raw := true) (r := (some (sN σ + 3))) hX (dc_X12_init 160 rfl) fl_X12_99 (by decide) (Or.inr ⟨rfl, rfl⟩) (fun w => by cases w <;> exact ⟨rfl, rfl⟩) (tf_al (tf_al (tf_al (tf_al ha0)))) (Or.inr ⟨hn, rfl, rfl⟩) ?_
  refine g_widen (u' := 29) (v' := 2350) (by decide) (by decide) ?_
  exact g_sub [0] rfl (c_X12_init_273 hX hO hal hn a0 hs0 (wR (al (wR (al (wI (wR (al (wR (al σ 0 6) a0 26 (some (sN σ))) 0 6) a0 27 (some (sN σ + 1))) a0 38 (12 : Int32)) 1 400) a0 39 (some (sN σ + 2))) 0 1800) a0 40 (some (sN σ + 3))) (tf_al (tf_al (tf_al (tf_al ha0)))))
def b_X12_init_197 (a0 : Nat)    (σ : MS) : Option (MS) := chk (sN σ < 1000000) (chk (sN σ + 1 < 1000000) (chk (sN σ + 2 < 1000000) (chk (sN σ + 3 < 1000000) (chk (sN σ + 4 < 1000000) ((b_X12_init_233 a0 (wR (al (wR (al (wR (al (wR (al (wR (al σ 0 4) a0 21 (some (sN σ))) 0 4) a0 22 (some (sN σ + 1))) 0 4) a0 23 (some (sN σ + 2))) 0 4) a0 24 (some (sN σ + 3))) 0 6) a0 25 (some (sN σ + 4)))))))))
set_option maxHeartbeats 4000000 in
set_option maxRecDepth 20000 in
theorem c_X12_init_197 {X : CX} {Ω : OM} (hX : CF X Ω RX12 cX12_init 1 none rm_X12_init) (hO : OKO Ω) (hal : oAl Ω) (hn : X.2.2.2.2.2.2.2.2.1.name = "<init>") (a0 : Nat) (hs0 : (oSH Ω).length ≤ a0)    (σ : MS) (ha0 : tf Ω σ a0 (30 + 12, 0)) : GE X Ω 1 47 8469 (emWV) 20 116 197 [(0, .ref a0)] [] σ (b_X12_init_197 a0 σ) := by
  unfold b_X12_init_197
  refine g_aload_n hX (dc_X12_init 122 rfl) rfl 0 rfl ?_
  refine g_iconst (w := (4 : Int32)) hX (dc_X12_init 123 rfl) (by decide) ?_
  refine g_chk (fun hl72 => ?_)
  refine g_newa_int (N := 4) hX hal hl72 (dc_X12_init 124 rfl) wa_int (by decide) (by decide) (by decide) (by decide) (by decide) ?_
  refine g_putN (raw := true) (r := (some (sN σ))) hX (dc_X12_init 125 rfl) fl_X12_70 (by decide) (Or.inr ⟨rfl, rfl⟩) (fun w => by cases w <;> exact ⟨rfl, rfl⟩) (tf_al ha0) (Or.inr ⟨hn, rfl, rfl⟩) ?_
  refine g_aload_n hX (dc_X12_init 126 rfl) rfl 0 rfl ?_
  refine g_iconst (w := (4 : Int32)) hX (dc_X12_init 127 rfl) (by decide) ?_
  refine g_chk (fun hl73 => ?_)
  refine g_newa_int (N := 4) hX hal hl73 (dc_X12_init 128 rfl) wa_int (by decide) (by decide) (by decide) (by decide) (by decide) ?_
  refine g_putN (raw := true) (r := (some (sN σ + 1))) hX (dc_X12_init 129 rfl) fl_X12_73 (by decide) (Or.inr ⟨rfl, rfl⟩) (fun w => by cases w <;> exact ⟨rfl, rfl⟩) (tf_al (tf_al ha0)) (Or.inr ⟨hn, rfl, rfl⟩) ?_
  refine g_aload_n hX (dc_X12_init 130 rfl) rfl 0 rfl ?_
  refine g_iconst (w := (4 : Int32)) hX (dc_X12_init 131 rfl) (by decide) ?_
  refine g_chk (fun hl74 => ?_)
  refine g_newa_int (N := 4) hX hal hl74 (dc_X12_init 132 rfl) wa_int (by decide) (by decide) (by decide) (by decide) (by decide) ?_
  refine g_putN (raw := true) (r := (some (sN σ + 2))) hX (dc_X12_init 133 rfl) fl_X12_76 (by decide) (Or.inr ⟨rfl, rfl⟩) (fun w => by cases w <;> exact ⟨rfl, rfl⟩) (tf_al (tf_al (tf_al ha0))) (Or.inr ⟨hn, rfl, rfl⟩) ?_
  refine g_aload_n hX (dc_X12_init 134 rfl) rfl 0 rfl ?_
  refine g_iconst (w := (4 : Int32)) hX (dc_X12_init 135 rfl) (by decide) ?_
  refine g_chk (fun hl75 => ?_)
  refine g_newa_int (N := 4) hX hal hl75 (dc_X12_init 136 rfl) wa_int (by decide) (by decide) (by decide) (by decide) (by decide) ?_
  refine g_putN (raw := true) (r := (some (sN σ + 3))) hX (dc_X12_init 137 rfl) fl_X12_79 (by decide) (Or.inr ⟨rfl, rfl⟩) (fun w => by cases w <;> exact ⟨rfl, rfl⟩) (tf_al (tf_al (tf_al (tf_al ha0)))) (Or.inr ⟨hn, rfl, rfl⟩) ?_
  refine g_aload_n hX (dc_X12_init 138 rfl) rfl 0 rfl ?_
  refine g_bipush (w := (6 : Int32)) hX (dc_X12_init 139 rfl) (by decide) ?_
  refine g_chk (fun hl76 => ?_)
  refine g_newa_int (N := 6) hX hal hl76 (dc_X12_init 140 rfl) wa_int (by decide) (by decide) (by decide) (by decide) (by decide) ?_
  refine g_putN (raw := true) (r := (some (sN σ + 4))) hX (dc_X12_init 141 rfl) fl_X12_82 (by decide) (Or.inr ⟨rfl, rfl⟩) (fun w => by cases w <;> exact ⟨rfl, rfl⟩) (tf_al (tf_al (tf_al (tf_al (tf_al ha0))))) (Or.inr ⟨hn, rfl, rfl⟩) ?_
  refine g_widen (u' := 25) (v' := 138) (by decide) (by decide) ?_
  exact g_sub [0] rfl (c_X12_init_233 hX hO hal hn a0 hs0 (wR (al (wR (al (wR (al (wR (al (wR (al σ 0 4) a0 21 (some (sN σ))) 0 4) a0 22 (some (sN σ + 1))) 0 4) a0 23 (some (sN σ + 2))) 0 4) a0 24 (some (sN σ + 3))) 0 6) a0 25 (some (sN σ + 4))) (tf_al (tf_al (tf_al (tf_al (tf_al ha0))))))
def b_X12_init_161 (a0 : Nat)    (σ : MS) : Option (MS) := chk (sN σ < 1000000) (chk (sN σ + 1 < 1000000) (chk (sN σ + 2 < 1000000) (chk (sN σ + 3 < 1000000) (chk (sN σ + 4 < 1000000) ((b_X12_init_197 a0 (wR (al (wR (al (wR (al (wR (al (wR (al σ 0 6) a0 16 (some (sN σ))) 0 1) a0 17 (some (sN σ + 1))) 0 5) a0 18 (some (sN σ + 2))) 0 5) a0 19 (some (sN σ + 3))) 0 5) a0 20 (some (sN σ + 4)))))))))
set_option maxHeartbeats 4000000 in
set_option maxRecDepth 20000 in
theorem c_X12_init_161 {X : CX} {Ω : OM} (hX : CF X Ω RX12 cX12_init 1 none rm_X12_init) (hO : OKO Ω) (hal : oAl Ω) (hn : X.2.2.2.2.2.2.2.2.1.name = "<init>") (a0 : Nat) (hs0 : (oSH Ω).length ≤ a0)    (σ : MS) (ha0 : tf Ω σ a0 (30 + 12, 0)) : GE X Ω 1 47 8469 (emWV) 15 94 161 [(0, .ref a0)] [] σ (b_X12_init_161 a0 σ) := by
  unfold b_X12_init_161
  refine g_aload_n hX (dc_X12_init 102 rfl) rfl 0 rfl ?_
  refine g_bipush (w := (6 : Int32)) hX (dc_X12_init 103 rfl) (by decide) ?_
  refine g_chk (fun hl77 => ?_)
  refine g_newa_int (N := 6) hX hal hl77 (dc_X12_init 104 rfl) wa_int (by decide) (by decide) (by decide) (by decide) (by decide) ?_
  refine g_putN (raw := true) (r := (some (sN σ))) hX (dc_X12_init 105 rfl) fl_X12_55 (by decide) (Or.inr ⟨rfl, rfl⟩) (fun w => by cases w <;> exact ⟨rfl, rfl⟩) (tf_al ha0) (Or.inr ⟨hn, rfl, rfl⟩) ?_
  refine g_aload_n hX (dc_X12_init 106 rfl) rfl 0 rfl ?_
  refine g_iconst (w := (1 : Int32)) hX (dc_X12_init 107 rfl) (by decide) ?_
  refine g_chk (fun hl78 => ?_)
  refine g_newa_int (N := 1) hX hal hl78 (dc_X12_init 108 rfl) wa_int (by decide) (by decide) (by decide) (by decide) (by decide) ?_
  refine g_putN (raw := true) (r := (some (sN σ + 1))) hX (dc_X12_init 109 rfl) fl_X12_58 (by decide) (Or.inr ⟨rfl, rfl⟩) (fun w => by cases w <;> exact ⟨rfl, rfl⟩) (tf_al (tf_al ha0)) (Or.inr ⟨hn, rfl, rfl⟩) ?_
  refine g_aload_n hX (dc_X12_init 110 rfl) rfl 0 rfl ?_
  refine g_iconst (w := (5 : Int32)) hX (dc_X12_init 111 rfl) (by decide) ?_
  refine g_chk (fun hl79 => ?_)
  refine g_newa_int (N := 5) hX hal hl79 (dc_X12_init 112 rfl) wa_int (by decide) (by decide) (by decide) (by decide) (by decide) ?_
  refine g_putN (raw := true) (r := (some (sN σ + 2))) hX (dc_X12_init 113 rfl) fl_X12_61 (by decide) (Or.inr ⟨rfl, rfl⟩) (fun w => by cases w <;> exact ⟨rfl, rfl⟩) (tf_al (tf_al (tf_al ha0))) (Or.inr ⟨hn, rfl, rfl⟩) ?_
  refine g_aload_n hX (dc_X12_init 114 rfl) rfl 0 rfl ?_
  refine g_iconst (w := (5 : Int32)) hX (dc_X12_init 115 rfl) (by decide) ?_
  refine g_chk (fun hl80 => ?_)
  refine g_newa_int (N := 5) hX hal hl80 (dc_X12_init 116 rfl) wa_int (by decide) (by decide) (by decide) (by decide) (by decide) ?_
  refine g_putN (raw := true) (r := (some (sN σ + 3))) hX (dc_X12_init 117 rfl) fl_X12_64 (by decide) (Or.inr ⟨rfl, rfl⟩) (fun w => by cases w <;> exact ⟨rfl, rfl⟩) (tf_al (tf_al (tf_al (tf_al ha0)))) (Or.inr ⟨hn, rfl, rfl⟩) ?_
  refine g_aload_n hX (dc_X12_init 118 rfl) rfl 0 rfl ?_
  refine g_iconst (w := (5 : Int32)) hX (dc_X12_init 119 rfl) (by decide) ?_
  refine g_chk (fun hl81 => ?_)
  refine g_newa_int (N := 5) hX hal hl81 (dc_X12_init 120 rfl) wa_int (by decide) (by decide) (by decide) (by decide) (by decide) ?_
  refine g_putN (raw := true) (r := (some (sN σ + 4))) hX (dc_X12_init 121 rfl) fl_X12_67 (by decide) (Or.inr ⟨rfl, rfl⟩) (fun w => by cases w <;> exact ⟨rfl, rfl⟩) (tf_al (tf_al (tf_al (tf_al (tf_al ha0))))) (Or.inr ⟨hn, rfl, rfl⟩) ?_
  refine g_widen (u' := 20) (v' := 116) (by decide) (by decide) ?_
  exact g_sub [0] rfl (c_X12_init_197 hX hO hal hn a0 hs0 (wR (al (wR (al (wR (al (wR (al (wR (al σ 0 6) a0 16 (some (sN σ))) 0 1) a0 17 (some (sN σ + 1))) 0 5) a0 18 (some (sN σ + 2))) 0 5) a0 19 (some (sN σ + 3))) 0 5) a0 20 (some (sN σ + 4))) (tf_al (tf_al (tf_al (tf_al (tf_al ha0))))))
def b_X12_init_130 (a0 : Nat)    (σ : MS) : Option (MS) := chk (sN σ < 1000000) (chk (sN σ + 1 < 1000000) (chk (sN σ + 2 < 1000000) (chk (sN σ + 3 < 1000000) ((b_X12_init_161 a0 (wR (al (wR (al (wR (al (wR (al σ 0 10) a0 12 (some (sN σ))) 0 10) a0 13 (some (sN σ + 1))) 0 10) a0 14 (some (sN σ + 2))) 0 4) a0 15 (some (sN σ + 3))))))))
set_option maxHeartbeats 4000000 in
set_option maxRecDepth 20000 in
theorem c_X12_init_130 {X : CX} {Ω : OM} (hX : CF X Ω RX12 cX12_init 1 none rm_X12_init) (hO : OKO Ω) (hal : oAl Ω) (hn : X.2.2.2.2.2.2.2.2.1.name = "<init>") (a0 : Nat) (hs0 : (oSH Ω).length ≤ a0)    (σ : MS) (ha0 : tf Ω σ a0 (30 + 12, 0)) : GE X Ω 1 47 8469 (emWV) 11 60 130 [(0, .ref a0)] [] σ (b_X12_init_130 a0 σ) := by
  unfold b_X12_init_130
  refine g_aload_n hX (dc_X12_init 86 rfl) rfl 0 rfl ?_
  refine g_bipush (w := (10 : Int32)) hX (dc_X12_init 87 rfl) (by decide) ?_
  refine g_chk (fun hl82 => ?_)
  refine g_newa_int (N := 10) hX hal hl82 (dc_X12_init 88 rfl) wa_int (by decide) (by decide) (by decide) (by decide) (by decide) ?_
  refine g_putN (raw := true) (r := (some (sN σ))) hX (dc_X12_init 89 rfl) fl_X12_43 (by decide) (Or.inr ⟨rfl, rfl⟩) (fun w => by cases w <;> exact ⟨rfl, rfl⟩) (tf_al ha0) (Or.inr ⟨hn, rfl, rfl⟩) ?_
  refine g_aload_n hX (dc_X12_init 90 rfl) rfl 0 rfl ?_
  refine g_bipush (w := (10 : Int32)) hX (dc_X12_init 91 rfl) (by decide) ?_
  refine g_chk (fun hl83 => ?_)
  refine g_newa_int (N := 10) hX hal hl83 (dc_X12_init 92 rfl) wa_int (by decide) (by decide) (by decide) (by decide) (by decide) ?_
  refine g_putN (raw := true) (r := (some (sN σ + 1))) hX (dc_X12_init 93 rfl) fl_X12_46 (by decide) (Or.inr ⟨rfl, rfl⟩) (fun w => by cases w <;> exact ⟨rfl, rfl⟩) (tf_al (tf_al ha0)) (Or.inr ⟨hn, rfl, rfl⟩) ?_
  refine g_aload_n hX (dc_X12_init 94 rfl) rfl 0 rfl ?_
  refine g_bipush (w := (10 : Int32)) hX (dc_X12_init 95 rfl) (by decide) ?_
  refine g_chk (fun hl84 => ?_)
  refine g_newa_int (N := 10) hX hal hl84 (dc_X12_init 96 rfl) wa_int (by decide) (by decide) (by decide) (by decide) (by decide) ?_
  refine g_putN (raw := true) (r := (some (sN σ + 2))) hX (dc_X12_init 97 rfl) fl_X12_49 (by decide) (Or.inr ⟨rfl, rfl⟩) (fun w => by cases w <;> exact ⟨rfl, rfl⟩) (tf_al (tf_al (tf_al ha0))) (Or.inr ⟨hn, rfl, rfl⟩) ?_
  refine g_aload_n hX (dc_X12_init 98 rfl) rfl 0 rfl ?_
  refine g_iconst (w := (4 : Int32)) hX (dc_X12_init 99 rfl) (by decide) ?_
  refine g_chk (fun hl85 => ?_)
  refine g_newa_int (N := 4) hX hal hl85 (dc_X12_init 100 rfl) wa_int (by decide) (by decide) (by decide) (by decide) (by decide) ?_
  refine g_putN (raw := true) (r := (some (sN σ + 3))) hX (dc_X12_init 101 rfl) fl_X12_52 (by decide) (Or.inr ⟨rfl, rfl⟩) (fun w => by cases w <;> exact ⟨rfl, rfl⟩) (tf_al (tf_al (tf_al (tf_al ha0)))) (Or.inr ⟨hn, rfl, rfl⟩) ?_
  refine g_widen (u' := 15) (v' := 94) (by decide) (by decide) ?_
  exact g_sub [0] rfl (c_X12_init_161 hX hO hal hn a0 hs0 (wR (al (wR (al (wR (al (wR (al σ 0 10) a0 12 (some (sN σ))) 0 10) a0 13 (some (sN σ + 1))) 0 10) a0 14 (some (sN σ + 2))) 0 4) a0 15 (some (sN σ + 3))) (tf_al (tf_al (tf_al (tf_al ha0)))))
def b_X12_init_91 (a0 : Nat)    (σ : MS) : Option (MS) := chk (sN σ < 1000000) (chk (sN σ + 1 < 1000000) (chk (sN σ + 2 < 1000000) (chk (sN σ + 3 < 1000000) (chk (sN σ + 4 < 1000000) ((b_X12_init_130 a0 (wR (al (wR (al (wR (al (wR (al (wR (al σ 0 4) a0 7 (some (sN σ))) 0 6) a0 8 (some (sN σ + 1))) 0 6) a0 9 (some (sN σ + 2))) 0 6) a0 10 (some (sN σ + 3))) 0 6) a0 11 (some (sN σ + 4)))))))))
set_option maxHeartbeats 4000000 in
set_option maxRecDepth 20000 in
theorem c_X12_init_91 {X : CX} {Ω : OM} (hX : CF X Ω RX12 cX12_init 1 none rm_X12_init) (hO : OKO Ω) (hal : oAl Ω) (hn : X.2.2.2.2.2.2.2.2.1.name = "<init>") (a0 : Nat) (hs0 : (oSH Ω).length ≤ a0)    (σ : MS) (ha0 : tf Ω σ a0 (30 + 12, 0)) : GE X Ω 1 47 8469 (emWV) 6 32 91 [(0, .ref a0)] [] σ (b_X12_init_91 a0 σ) := by
  unfold b_X12_init_91
  refine g_aload_n hX (dc_X12_init 66 rfl) rfl 0 rfl ?_
  refine g_iconst (w := (4 : Int32)) hX (dc_X12_init 67 rfl) (by decide) ?_
  refine g_chk (fun hl86 => ?_)
  refine g_newa_int (N := 4) hX hal hl86 (dc_X12_init 68 rfl) wa_int (by decide) (by decide) (by decide) (by decide) (by decide) ?_
  refine g_putN (raw := true) (r := (some (sN σ))) hX (dc_X12_init 69 rfl) fl_X12_28 (by decide) (Or.inr ⟨rfl, rfl⟩) (fun w => by cases w <;> exact ⟨rfl, rfl⟩) (tf_al ha0) (Or.inr ⟨hn, rfl, rfl⟩) ?_
  refine g_aload_n hX (dc_X12_init 70 rfl) rfl 0 rfl ?_
  refine g_bipush (w := (6 : Int32)) hX (dc_X12_init 71 rfl) (by decide) ?_
  refine g_chk (fun hl87 => ?_)
  refine g_newa_int (N := 6) hX hal hl87 (dc_X12_init 72 rfl) wa_int (by decide) (by decide) (by decide) (by decide) (by decide) ?_
  refine g_putN (raw := true) (r := (some (sN σ + 1))) hX (dc_X12_init 73 rfl) fl_X12_31 (by decide) (Or.inr ⟨rfl, rfl⟩) (fun w => by cases w <;> exact ⟨rfl, rfl⟩) (tf_al (tf_al ha0)) (Or.inr ⟨hn, rfl, rfl⟩) ?_
  refine g_aload_n hX (dc_X12_init 74 rfl) rfl 0 rfl ?_
  refine g_bipush (w := (6 : Int32)) hX (dc_X12_init 75 rfl) (by decide) ?_
  refine g_chk (fun hl88 => ?_)
  refine g_newa_int (N := 6) hX hal hl88 (dc_X12_init 76 rfl) wa_int (by decide) (by decide) (by decide) (by decide) (by decide) ?_
  refine g_putN (raw := true) (r := (some (sN σ + 2))) hX (dc_X12_init 77 rfl) fl_X12_34 (by decide) (Or.inr ⟨rfl, rfl⟩) (fun w => by cases w <;> exact ⟨rfl, rfl⟩) (tf_al (tf_al (tf_al ha0))) (Or.inr ⟨hn, rfl, rfl⟩) ?_
  refine g_aload_n hX (dc_X12_init 78 rfl) rfl 0 rfl ?_
  refine g_bipush (w := (6 : Int32)) hX (dc_X12_init 79 rfl) (by decide) ?_
  refine g_chk (fun hl89 => ?_)
  refine g_newa_int (N := 6) hX hal hl89 (dc_X12_init 80 rfl) wa_int (by decide) (by decide) (by decide) (by decide) (by decide) ?_
  refine g_putN (raw := true) (r := (some (sN σ + 3))) hX (dc_X12_init 81 rfl) fl_X12_37 (by decide) (Or.inr ⟨rfl, rfl⟩) (fun w => by cases w <;> exact ⟨rfl, rfl⟩) (tf_al (tf_al (tf_al (tf_al ha0)))) (Or.inr ⟨hn, rfl, rfl⟩) ?_
  refine g_aload_n hX (dc_X12_init 82 rfl) rfl 0 rfl ?_
  refine g_bipush (w := (6 : Int32)) hX (dc_X12_init 83 rfl) (by decide) ?_
  refine g_chk (fun hl90 => ?_)
  refine g_newa_int (N := 6) hX hal hl90 (dc_X12_init 84 rfl) wa_int (by decide) (by decide) (by decide) (by decide) (by decide) ?_
  refine g_putN (raw := true) (r := (some (sN σ + 4))) hX (dc_X12_init 85 rfl) fl_X12_40 (by decide) (Or.inr ⟨rfl, rfl⟩) (fun w => by cases w <;> exact ⟨rfl, rfl⟩) (tf_al (tf_al (tf_al (tf_al (tf_al ha0))))) (Or.inr ⟨hn, rfl, rfl⟩) ?_
  refine g_widen (u' := 11) (v' := 60) (by decide) (by decide) ?_
  exact g_sub [0] rfl (c_X12_init_130 hX hO hal hn a0 hs0 (wR (al (wR (al (wR (al (wR (al (wR (al σ 0 4) a0 7 (some (sN σ))) 0 6) a0 8 (some (sN σ + 1))) 0 6) a0 9 (some (sN σ + 2))) 0 6) a0 10 (some (sN σ + 3))) 0 6) a0 11 (some (sN σ + 4))) (tf_al (tf_al (tf_al (tf_al (tf_al ha0))))))
def b_X12_init_56 (a0 : Nat)    (σ : MS) : Option (MS) := chk (sN σ < 1000000) (chk (sN σ + 1 < 1000000) (chk (sN σ + 2 < 1000000) (chk (sN σ + 3 < 1000000) (chk (sN σ + 4 < 1000000) ((b_X12_init_91 a0 (wR (al (wR (al (wR (al (wR (al (wR (al σ 0 5) a0 2 (some (sN σ))) 0 5) a0 3 (some (sN σ + 1))) 0 4) a0 4 (some (sN σ + 2))) 0 4) a0 5 (some (sN σ + 3))) 0 4) a0 6 (some (sN σ + 4)))))))))
set_option maxHeartbeats 4000000 in
set_option maxRecDepth 20000 in
theorem c_X12_init_56 {X : CX} {Ω : OM} (hX : CF X Ω RX12 cX12_init 1 none rm_X12_init) (hO : OKO Ω) (hal : oAl Ω) (hn : X.2.2.2.2.2.2.2.2.1.name = "<init>") (a0 : Nat) (hs0 : (oSH Ω).length ≤ a0)    (σ : MS) (ha0 : tf Ω σ a0 (30 + 12, 0)) : GE X Ω 1 47 8469 (emWV) 1 10 56 [(0, .ref a0)] [] σ (b_X12_init_56 a0 σ) := by
  unfold b_X12_init_56
  refine g_aload_n hX (dc_X12_init 46 rfl) rfl 0 rfl ?_
  refine g_iconst (w := (5 : Int32)) hX (dc_X12_init 47 rfl) (by decide) ?_
  refine g_chk (fun hl91 => ?_)
  refine g_newa_int (N := 5) hX hal hl91 (dc_X12_init 48 rfl) wa_int (by decide) (by decide) (by decide) (by decide) (by decide) ?_
  refine g_putN (raw := true) (r := (some (sN σ))) hX (dc_X12_init 49 rfl) fl_X12_13 (by decide) (Or.inr ⟨rfl, rfl⟩) (fun w => by cases w <;> exact ⟨rfl, rfl⟩) (tf_al ha0) (Or.inr ⟨hn, rfl, rfl⟩) ?_
  refine g_aload_n hX (dc_X12_init 50 rfl) rfl 0 rfl ?_
  refine g_iconst (w := (5 : Int32)) hX (dc_X12_init 51 rfl) (by decide) ?_
  refine g_chk (fun hl92 => ?_)
  refine g_newa_int (N := 5) hX hal hl92 (dc_X12_init 52 rfl) wa_int (by decide) (by decide) (by decide) (by decide) (by decide) ?_
  refine g_putN (raw := true) (r := (some (sN σ + 1))) hX (dc_X12_init 53 rfl) fl_X12_16 (by decide) (Or.inr ⟨rfl, rfl⟩) (fun w => by cases w <;> exact ⟨rfl, rfl⟩) (tf_al (tf_al ha0)) (Or.inr ⟨hn, rfl, rfl⟩) ?_
  refine g_aload_n hX (dc_X12_init 54 rfl) rfl 0 rfl ?_
  refine g_iconst (w := (4 : Int32)) hX (dc_X12_init 55 rfl) (by decide) ?_
  refine g_chk (fun hl93 => ?_)
  refine g_newa_int (N := 4) hX hal hl93 (dc_X12_init 56 rfl) wa_int (by decide) (by decide) (by decide) (by decide) (by decide) ?_
  refine g_putN (raw := true) (r := (some (sN σ + 2))) hX (dc_X12_init 57 rfl) fl_X12_19 (by decide) (Or.inr ⟨rfl, rfl⟩) (fun w => by cases w <;> exact ⟨rfl, rfl⟩) (tf_al (tf_al (tf_al ha0))) (Or.inr ⟨hn, rfl, rfl⟩) ?_
  refine g_aload_n hX (dc_X12_init 58 rfl) rfl 0 rfl ?_
  refine g_iconst (w := (4 : Int32)) hX (dc_X12_init 59 rfl) (by decide) ?_
  refine g_chk (fun hl94 => ?_)
  refine g_newa_int (N := 4) hX hal hl94 (dc_X12_init 60 rfl) wa_int (by decide) (by decide) (by decide) (by decide) (by decide) ?_
  refine g_putN (raw := true) (r := (some (sN σ + 3))) hX (dc_X12_init 61 rfl) fl_X12_22 (by decide) (Or.inr ⟨rfl, rfl⟩) (fun w => by cases w <;> exact ⟨rfl, rfl⟩) (tf_al (tf_al (tf_al (tf_al ha0)))) (Or.inr ⟨hn, rfl, rfl⟩) ?_
  refine g_aload_n hX (dc_X12_init 62 rfl) rfl 0 rfl ?_
  refine g_iconst (w := (4 : Int32)) hX (dc_X12_init 63 rfl) (by decide) ?_
  refine g_chk (fun hl95 => ?_)
  refine g_newa_int (N := 4) hX hal hl95 (dc_X12_init 64 rfl) wa_int (by decide) (by decide) (by decide) (by decide) (by decide) ?_
  refine g_putN (raw := true) (r := (some (sN σ + 4))) hX (dc_X12_init 65 rfl) fl_X12_25 (by decide) (Or.inr ⟨rfl, rfl⟩) (fun w => by cases w <;> exact ⟨rfl, rfl⟩) (tf_al (tf_al (tf_al (tf_al (tf_al ha0))))) (Or.inr ⟨hn, rfl, rfl⟩) ?_
  refine g_widen (u' := 6) (v' := 32) (by decide) (by decide) ?_
  exact g_sub [0] rfl (c_X12_init_91 hX hO hal hn a0 hs0 (wR (al (wR (al (wR (al (wR (al (wR (al σ 0 5) a0 2 (some (sN σ))) 0 5) a0 3 (some (sN σ + 1))) 0 4) a0 4 (some (sN σ + 2))) 0 4) a0 5 (some (sN σ + 3))) 0 4) a0 6 (some (sN σ + 4))) (tf_al (tf_al (tf_al (tf_al (tf_al ha0))))))
def b_X12_init_0 (a0 : Nat)    (σ : MS) : Option (MS) := chk (sN σ < 1000000) ((b_X12_init_56 a0 (wR (wI (wI (wI (wI (wI (wI (wI (wI (wI (wI (al σ 0 10) (sN σ) 0 (0 : Int32)) (sN σ) 1 (0 : Int32)) (sN σ) 2 (0 : Int32)) (sN σ) 3 (0 : Int32)) (sN σ) 4 (0 : Int32)) (sN σ) 5 (0 : Int32)) (sN σ) 6 (0 : Int32)) (sN σ) 7 (0 : Int32)) (sN σ) 8 (0 : Int32)) (sN σ) 9 (-1 : Int32)) a0 1 (some (sN σ)))))
set_option maxHeartbeats 4000000 in
set_option maxRecDepth 20000 in
theorem c_X12_init_0 {X : CX} {Ω : OM} (hX : CF X Ω RX12 cX12_init 1 none rm_X12_init) (hO : OKO Ω) (hal : oAl Ω) (hn : X.2.2.2.2.2.2.2.2.1.name = "<init>") (a0 : Nat) (hs0 : (oSH Ω).length ≤ a0)    (σ : MS) (ha0 : tf Ω σ a0 (30 + 12, 0)) : GE X Ω 1 47 8469 (emWV) 0 0 0 [(0, .ref a0)] [] σ (b_X12_init_0 a0 σ) := by
  unfold b_X12_init_0
  refine g_aload_n hX (dc_X12_init 0 rfl) rfl 0 rfl ?_
  refine g_objinit hX (dc_X12_init 1 rfl) mo_X12_3 wo_i wo_c (by decide) (by decide) (Nat.le_of_ble_eq_true rfl) ?_
  refine g_aload_n hX (dc_X12_init 2 rfl) rfl 0 rfl ?_
  refine g_bipush (w := (10 : Int32)) hX (dc_X12_init 3 rfl) (by decide) ?_
  refine g_chk (fun hl96 => ?_)
  refine g_newa_int (N := 10) hX hal hl96 (dc_X12_init 4 rfl) wa_int (by decide) (by decide) (by decide) (by decide) (by decide) ?_
  refine g_dup hX (dc_X12_init 5 rfl) rfl ?_
  refine g_iconst (w := (0 : Int32)) hX (dc_X12_init 6 rfl) (by decide) ?_
  refine g_iconst (w := (0 : Int32)) hX (dc_X12_init 7 rfl) (by decide) ?_
  refine g_iast (j := 0) hX (dc_X12_init 8 rfl) tf_new (by decide) (by decide) ?_
  refine g_dup hX (dc_X12_init 9 rfl) rfl ?_
  refine g_iconst (w := (1 : Int32)) hX (dc_X12_init 10 rfl) (by decide) ?_
  refine g_iconst (w := (0 : Int32)) hX (dc_X12_init 11 rfl) (by decide) ?_
  refine g_iast (j := 1) hX (dc_X12_init 12 rfl) tf_new (by decide) (by decide) ?_
  refine g_dup hX (dc_X12_init 13 rfl) rfl ?_
  refine g_iconst (w := (2 : Int32)) hX (dc_X12_init 14 rfl) (by decide) ?_
  refine g_iconst (w := (0 : Int32)) hX (dc_X12_init 15 rfl) (by decide) ?_
  refine g_iast (j := 2) hX (dc_X12_init 16 rfl) tf_new (by decide) (by decide) ?_
  refine g_dup hX (dc_X12_init 17 rfl) rfl ?_
  refine g_iconst (w := (3 : Int32)) hX (dc_X12_init 18 rfl) (by decide) ?_
  refine g_iconst (w := (0 : Int32)) hX (dc_X12_init 19 rfl) (by decide) ?_
  refine g_iast (j := 3) hX (dc_X12_init 20 rfl) tf_new (by decide) (by decide) ?_
  refine g_dup hX (dc_X12_init 21 rfl) rfl ?_
  refine g_iconst (w := (4 : Int32)) hX (dc_X12_init 22 rfl) (by decide) ?_
  refine g_iconst (w := (0 : Int32)) hX (dc_X12_init 23 rfl) (by decide) ?_
  refine g_iast (j := 4) hX (dc_X12_init 24 rfl) tf_new (by decide) (by decide) ?_
  refine g_dup hX (dc_X12_init 25 rfl) rfl ?_
  refine g_iconst (w := (5 : Int32)) hX (dc_X12_init 26 rfl) (by decide) ?_
  refine g_iconst (w := (0 : Int32)) hX (dc_X12_init 27 rfl) (by decide) ?_
  refine g_iast (j := 5) hX (dc_X12_init 28 rfl) tf_new (by decide) (by decide) ?_
  refine g_dup hX (dc_X12_init 29 rfl) rfl ?_
  refine g_bipush (w := (6 : Int32)) hX (dc_X12_init 30 rfl) (by decide) ?_
  refine g_iconst (w := (0 : Int32)) hX (dc_X12_init 31 rfl) (by decide) ?_
  refine g_iast (j := 6) hX (dc_X12_init 32 rfl) tf_new (by decide) (by decide) ?_
  refine g_dup hX (dc_X12_init 33 rfl) rfl ?_
  refine g_bipush (w := (7 : Int32)) hX (dc_X12_init 34 rfl) (by decide) ?_
  refine g_iconst (w := (0 : Int32)) hX (dc_X12_init 35 rfl) (by decide) ?_
  refine g_iast (j := 7) hX (dc_X12_init 36 rfl) tf_new (by decide) (by decide) ?_
  refine g_dup hX (dc_X12_init 37 rfl) rfl ?_
  refine g_bipush (w := (8 : Int32)) hX (dc_X12_init 38 rfl) (by decide) ?_
  refine g_iconst (w := (0 : Int32)) hX (dc_X12_init 39 rfl) (by decide) ?_
  refine g_iast (j := 8) hX (dc_X12_init 40 rfl) tf_new (by decide) (by decide) ?_
  refine g_dup hX (dc_X12_init 41 rfl) rfl ?_
  refine g_bipush (w := (9 : Int32)) hX (dc_X12_init 42 rfl) (by decide) ?_
  refine g_iconst (w := (-1 : Int32)) hX (dc_X12_init 43 rfl) (by decide) ?_
  refine g_iast (j := 9) hX (dc_X12_init 44 rfl) tf_new (by decide) (by decide) ?_
  refine g_putN (raw := true) (r := (some (sN σ))) hX (dc_X12_init 45 rfl) fl_X12_9 (by decide) (Or.inr ⟨rfl, rfl⟩) (fun w => by cases w <;> exact ⟨rfl, rfl⟩) (tf_al ha0) (Or.inr ⟨hn, rfl, rfl⟩) ?_
  refine g_widen (u' := 1) (v' := 10) (by decide) (by decide) ?_
  exact g_sub [0] rfl (c_X12_init_56 hX hO hal hn a0 hs0 (wR (wI (wI (wI (wI (wI (wI (wI (wI (wI (wI (al σ 0 10) (sN σ) 0 (0 : Int32)) (sN σ) 1 (0 : Int32)) (sN σ) 2 (0 : Int32)) (sN σ) 3 (0 : Int32)) (sN σ) 4 (0 : Int32)) (sN σ) 5 (0 : Int32)) (sN σ) 6 (0 : Int32)) (sN σ) 7 (0 : Int32)) (sN σ) 8 (0 : Int32)) (sN σ) 9 (-1 : Int32)) a0 1 (some (sN σ))) (tf_al ha0))
def f_X12_init (a0 : Nat) (σ : MS) : Option (MS) := b_X12_init_0 a0  σ
theorem con_X12_init {Ω : OM} (hO : OKO Ω) (hal : oAl Ω) (a0 : Nat) (σ : MS) (ha0 : tf Ω σ a0 (30 + 12, 0)) (hs0 : (oSH Ω).length ≤ a0) : Con Ω yX12_init cX12_init 1 none rm_X12_init (emWV) [.ref a0] σ (f_X12_init a0 σ) :=
  con_of hO (by decide +kernel) (Nat.le_of_ble_eq_true rfl) rfl (fun X hX hn => c_X12_init_0 hX hO hal hn a0 hs0  σ ha0)
