
def it_X11_feed : List (Nat × Instr × Nat × Nat) := [(0, .aload_n 0, 1, 1), (1, .getfield 10, 3, 4), (4, .bipush 20, 2, 6), (6, .invokevirtual 87, 3, 9), (9, .ifCond .ne 5, 3, 12), (12, .iconst (-1), 1, 13), (13, .ireturn, 1, 14), (14, .aload_n 0, 1, 15), (15, .getfield 10, 3, 18), (18, .iload_n 1, 1, 19), (19, .invokevirtual 91, 3, 22), (22, .aload_n 0, 1, 23), (23, .getfield 10, 3, 26), (26, .iload_n 2, 1, 27), (27, .invokevirtual 91, 3, 30), (30, .aload_n 0, 1, 31), (31, .getfield 10, 3, 34), (34, .iload_n 3, 1, 35), (35, .invokevirtual 91, 3, 38), (38, .aload_n 0, 1, 39), (39, .getfield 10, 3, 42), (42, .iload 4, 2, 44), (44, .invokevirtual 91, 3, 47), (47, .aload_n 0, 1, 48), (48, .getfield 10, 3, 51), (51, .iload 5, 2, 53), (53, .invokevirtual 91, 3, 56), (56, .aload_n 0, 1, 57), (57, .getfield 10, 3, 60), (60, .getfield 95, 3, 63), (63, .ireturn, 1, 64)]
theorem id_X11_feed : ∀ q ∈ it_X11_feed, decode cX11_feed q.1 = .ok (q.2.1, q.2.2.1) ∧ q.1 + q.2.2.1 = q.2.2.2 := by decide +kernel
theorem dc_X11_feed {pc : Nat} {i : Instr} {n pc' : Nat} (j : Nat) (h : it_X11_feed[j]? = some (pc, i, n, pc')) : Dc cX11_feed pc i n pc' := dc_of id_X11_feed j h
abbrev rm_X11_feed : Room := { frames := 1, cells := 0, slots := 0, locals := 22 }
def b_X11_feed_0   (x1 : Int32) (x2 : Int32) (x3 : Int32) (x4 : Int32) (x5 : Int32)  (σ : MS) : Option (Int32 × MS) := (f_X9_hasRoom (20 : Int32) σ).bind (fun r8 => (if r8 = 0 then some ((-1 : Int32), σ) else (f_X9_put x1 σ).bind (fun r10 => (f_X9_put x2 r10).bind (fun r11 => (f_X9_put x3 r11).bind (fun r12 => (f_X9_put x4 r12).bind (fun r13 => (f_X9_put x5 r13).bind (fun r14 => some ((sI r14 1 1), r14))))))))
set_option maxHeartbeats 4000000 in
set_option maxRecDepth 20000 in
theorem c_X11_feed_0 {X : CX} {Ω : OM} (hX : CF X Ω RX11 cX11_feed 6 (some .int) rm_X11_feed) (hO : OKO Ω) (hΩ : oSH Ω = SHX)    (x1 : Int32) (x2 : Int32) (x3 : Int32) (x4 : Int32) (x5 : Int32)  (σ : MS)  : GE X Ω 6 0 0 (emWI) 0 0 0 [(0, .ref 0), (1, .int x1), (2, .int x2), (3, .int x3), (4, .int x4), (5, .int x5)] [] σ (b_X11_feed_0  x1 x2 x3 x4 x5 σ) := by
  unfold b_X11_feed_0
  refine g_aload_n hX (dc_X11_feed 0 rfl) rfl 0 rfl ?_
  refine g_getF (q := 1) hX (dc_X11_feed 1 rfl) fl_X11_10 (by decide) rfl (stS hΩ 0 rfl) rfl ?_
  refine g_bipush (w := (20 : Int32)) hX (dc_X11_feed 2 rfl) (by decide) ?_
  refine gV_PI (As := [.int (20 : Int32)]) (st := []) hX (dc_X11_feed 3 rfl) ml_X11_87 (con_X9_hasRoom hO hΩ (20 : Int32) σ) (stS hΩ 1 rfl) rfl rfl ⟨by decide, by decide⟩ ⟨rfl, rfl⟩ ⟨Nat.zero_le _, Nat.zero_le _⟩ (Nat.le_of_ble_eq_true rfl) (fun r8 _ => ?_)
  refine g_if_ne (tgt := 14) hX (dc_X11_feed 4 rfl) (by decide) (fun h9 => ?_) (fun h9 => ?_)
  · refine g_iconst (w := (-1 : Int32)) hX (dc_X11_feed 5 rfl) (by decide) ?_
    exact g_iret hX (dc_X11_feed 6 rfl) rfl rfl (Nat.le_refl _) (Nat.le_refl _)
  · refine g_aload_n hX (dc_X11_feed 7 rfl) rfl 0 rfl ?_
    refine g_getF (q := 1) hX (dc_X11_feed 8 rfl) fl_X11_10 (by decide) rfl (stS hΩ 0 rfl) rfl ?_
    refine g_iload_n hX (dc_X11_feed 9 rfl) rfl 1 rfl ?_
    refine gV_WV (As := [.int x1]) (st := []) hX (dc_X11_feed 10 rfl) ml_X11_91 (con_X9_put hO hΩ x1 σ) (stS hΩ 1 rfl) rfl rfl ⟨by decide, by decide⟩ ⟨rfl, rfl⟩ ⟨Nat.zero_le _, Nat.zero_le _⟩ (Nat.le_of_ble_eq_true rfl) (fun r10 _ => ?_)
    refine g_aload_n hX (dc_X11_feed 11 rfl) rfl 0 rfl ?_
    refine g_getF (q := 1) hX (dc_X11_feed 12 rfl) fl_X11_10 (by decide) rfl (stS hΩ 0 rfl) rfl ?_
    refine g_iload_n hX (dc_X11_feed 13 rfl) rfl 2 rfl ?_
    refine gV_WV (As := [.int x2]) (st := []) hX (dc_X11_feed 14 rfl) ml_X11_91 (con_X9_put hO hΩ x2 r10) (stS hΩ 1 rfl) rfl rfl ⟨by decide, by decide⟩ ⟨rfl, rfl⟩ ⟨Nat.zero_le _, Nat.zero_le _⟩ (Nat.le_of_ble_eq_true rfl) (fun r11 _ => ?_)
    refine g_aload_n hX (dc_X11_feed 15 rfl) rfl 0 rfl ?_
    refine g_getF (q := 1) hX (dc_X11_feed 16 rfl) fl_X11_10 (by decide) rfl (stS hΩ 0 rfl) rfl ?_
    refine g_iload_n hX (dc_X11_feed 17 rfl) rfl 3 rfl ?_
    refine gV_WV (As := [.int x3]) (st := []) hX (dc_X11_feed 18 rfl) ml_X11_91 (con_X9_put hO hΩ x3 r11) (stS hΩ 1 rfl) rfl rfl ⟨by decide, by decide⟩ ⟨rfl, rfl⟩ ⟨Nat.zero_le _, Nat.zero_le _⟩ (Nat.le_of_ble_eq_true rfl) (fun r12 _ => ?_)
    refine g_aload_n hX (dc_X11_feed 19 rfl) rfl 0 rfl ?_
    refine g_getF (q := 1) hX (dc_X11_feed 20 rfl) fl_X11_10 (by decide) rfl (stS hΩ 0 rfl) rfl ?_
    refine g_iload hX (dc_X11_feed 21 rfl) 4 rfl ?_
    refine gV_WV (As := [.int x4]) (st := []) hX (dc_X11_feed 22 rfl) ml_X11_91 (con_X9_put hO hΩ x4 r12) (stS hΩ 1 rfl) rfl rfl ⟨by decide, by decide⟩ ⟨rfl, rfl⟩ ⟨Nat.zero_le _, Nat.zero_le _⟩ (Nat.le_of_ble_eq_true rfl) (fun r13 _ => ?_)
    refine g_aload_n hX (dc_X11_feed 23 rfl) rfl 0 rfl ?_
    refine g_getF (q := 1) hX (dc_X11_feed 24 rfl) fl_X11_10 (by decide) rfl (stS hΩ 0 rfl) rfl ?_
    refine g_iload hX (dc_X11_feed 25 rfl) 5 rfl ?_
    refine gV_WV (As := [.int x5]) (st := []) hX (dc_X11_feed 26 rfl) ml_X11_91 (con_X9_put hO hΩ x5 r13) (stS hΩ 1 rfl) rfl rfl ⟨by decide, by decide⟩ ⟨rfl, rfl⟩ ⟨Nat.zero_le _, Nat.zero_le _⟩ (Nat.le_of_ble_eq_true rfl) (fun r14 _ => ?_)
    refine g_aload_n hX (dc_X11_feed 27 rfl) rfl 0 rfl ?_
    refine g_getF (q := 1) hX (dc_X11_feed 28 rfl) fl_X11_10 (by decide) rfl (stS hΩ 0 rfl) rfl ?_
    refine g_getI hX (dc_X11_feed 29 rfl) fl_X11_95 (by decide) rfl (stS hΩ 1 rfl) ?_
    exact g_iret hX (dc_X11_feed 30 rfl) rfl rfl (Nat.le_refl _) (Nat.le_refl _)
def f_X11_feed (x1 : Int32) (x2 : Int32) (x3 : Int32) (x4 : Int32) (x5 : Int32) (σ : MS) : Option (Int32 × MS) := b_X11_feed_0  x1 x2 x3 x4 x5 σ
theorem con_X11_feed {Ω : OM} (hO : OKO Ω) (hΩ : oSH Ω = SHX) (x1 : Int32) (x2 : Int32) (x3 : Int32) (x4 : Int32) (x5 : Int32) (σ : MS)  : Con Ω yX11_feed cX11_feed 6 (some .int) rm_X11_feed (emWI) [.ref 0, .int x1, .int x2, .int x3, .int x4, .int x5] σ (f_X11_feed x1 x2 x3 x4 x5 σ) :=
  con_of hO (by decide +kernel) (Nat.le_of_ble_eq_true rfl) rfl (fun X hX _ => c_X11_feed_0 hX hO hΩ   x1 x2 x3 x4 x5 σ )
def it_X11_end : List (Nat × Instr × Nat × Nat) := [(0, .iload_n 1, 1, 1), (1, .ifCond .lt 14, 3, 4), (4, .iload_n 1, 1, 5), (5, .aload_n 0, 1, 6), (6, .getfield 10, 3, 9), (9, .getfield 95, 3, 12), (12, .if_icmp .le 5, 3, 15), (15, .iconst (-1), 1, 16), (16, .ireturn, 1, 17), (17, .aload_n 0, 1, 18), (18, .getfield 10, 3, 21), (21, .iload_n 1, 1, 22), (22, .putfield 95, 3, 25), (25, .iload_n 1, 1, 26), (26, .ireturn, 1, 27)]
theorem id_X11_end : ∀ q ∈ it_X11_end, decode cX11_end q.1 = .ok (q.2.1, q.2.2.1) ∧ q.1 + q.2.2.1 = q.2.2.2 := by decide +kernel
theorem dc_X11_end {pc : Nat} {i : Instr} {n pc' : Nat} (j : Nat) (h : it_X11_end[j]? = some (pc, i, n, pc')) : Dc cX11_end pc i n pc' := dc_of id_X11_end j h
abbrev rm_X11_end : Room := { frames := 0, cells := 0, slots := 0, locals := 0 }
def b_X11_end_15     (σ : MS) : Option (Int32 × MS) := some ((-1 : Int32), σ)
set_option maxHeartbeats 4000000 in
set_option maxRecDepth 20000 in
theorem c_X11_end_15 {X : CX} {Ω : OM} (hX : CF X Ω RX11 cX11_end 2 (some .int) rm_X11_end) (hO : OKO Ω) (hΩ : oSH Ω = SHX)      (σ : MS)  : GE X Ω 2 0 0 (emWI) 0 0 15 [] [] σ (b_X11_end_15  σ) := by
  unfold b_X11_end_15
  refine g_iconst (w := (-1 : Int32)) hX (dc_X11_end 7 rfl) (by decide) ?_
  exact g_iret hX (dc_X11_end 8 rfl) rfl rfl (Nat.le_refl _) (Nat.le_refl _)
def b_X11_end_0   (x1 : Int32)  (σ : MS) : Option (Int32 × MS) := (if x1 < 0 then (b_X11_end_15 σ) else (if x1 ≤ (sI σ 1 1) then some (x1, (wI σ 1 1 x1)) else (b_X11_end_15 σ)))
set_option maxHeartbeats 4000000 in
set_option maxRecDepth 20000 in
theorem c_X11_end_0 {X : CX} {Ω : OM} (hX : CF X Ω RX11 cX11_end 2 (some .int) rm_X11_end) (hO : OKO Ω) (hΩ : oSH Ω = SHX)    (x1 : Int32)  (σ : MS)  : GE X Ω 2 0 0 (emWI) 0 0 0 [(0, .ref 0), (1, .int x1)] [] σ (b_X11_end_0  x1 σ) := by
  unfold b_X11_end_0
  refine g_iload_n hX (dc_X11_end 0 rfl) rfl 1 rfl ?_
  refine g_if_lt (tgt := 15) hX (dc_X11_end 1 rfl) (by decide) (fun h3 => ?_) (fun h3 => ?_)
  · exact g_sub [] rfl (c_X11_end_15 hX hO hΩ σ)
  · refine g_iload_n hX (dc_X11_end 2 rfl) rfl 1 rfl ?_
    refine g_aload_n hX (dc_X11_end 3 rfl) rfl 0 rfl ?_
    refine g_getF (q := 1) hX (dc_X11_end 4 rfl) fl_X11_10 (by decide) rfl (stS hΩ 0 rfl) rfl ?_
    refine g_getI hX (dc_X11_end 5 rfl) fl_X11_95 (by decide) rfl (stS hΩ 1 rfl) ?_
    refine g_icmp_le (tgt := 17) hX (dc_X11_end 6 rfl) (by decide) (fun h4 => ?_) (fun h4 => ?_)
    · refine g_aload_n hX (dc_X11_end 9 rfl) rfl 0 rfl ?_
      refine g_getF (q := 1) hX (dc_X11_end 10 rfl) fl_X11_10 (by decide) rfl (stS hΩ 0 rfl) rfl ?_
      refine g_iload_n hX (dc_X11_end 11 rfl) rfl 1 rfl ?_
      refine g_putI (raw := false) hX (dc_X11_end 12 rfl) fl_X11_95 (by decide) ⟨rfl, rfl⟩ ⟨rfl, rfl⟩ (stS hΩ 1 rfl) ?_
      refine g_iload_n hX (dc_X11_end 13 rfl) rfl 1 rfl ?_
      exact g_iret hX (dc_X11_end 14 rfl) rfl rfl (Nat.le_refl _) (Nat.le_refl _)
    · exact g_sub [] rfl (c_X11_end_15 hX hO hΩ σ)
def f_X11_end (x1 : Int32) (σ : MS) : Option (Int32 × MS) := b_X11_end_0  x1 σ
theorem con_X11_end {Ω : OM} (hO : OKO Ω) (hΩ : oSH Ω = SHX) (x1 : Int32) (σ : MS)  : Con Ω yX11_end cX11_end 2 (some .int) rm_X11_end (emWI) [.ref 0, .int x1] σ (f_X11_end x1 σ) :=
  con_of hO (by decide +kernel) (Nat.le_of_ble_eq_true rfl) rfl (fun X hX _ => c_X11_end_0 hX hO hΩ   x1 σ )
def it_X11_duchy : List (Nat × Instr × Nat × Nat) := [(0, .aload_n 0, 1, 1), (1, .getfield 21, 3, 4), (4, .invokevirtual 99, 3, 7), (7, .istore_n 1, 1, 8), (8, .aload_n 0, 1, 9), (9, .getfield 10, 3, 12), (12, .iconst 0, 1, 13), (13, .putfield 95, 3, 16), (16, .iload_n 1, 1, 17), (17, .ifCond .eq 8, 3, 20), (20, .bipush (-2), 2, 22), (22, .iload_n 1, 1, 23), (23, .isub, 1, 24), (24, .ireturn, 1, 25), (25, .aload_n 0, 1, 26), (26, .getfield 41, 3, 29), (29, .aload_n 0, 1, 30), (30, .getfield 21, 3, 33), (33, .getfield 103, 3, 36), (36, .invokevirtual 106, 3, 39), (39, .aload_n 0, 1, 40), (40, .getfield 41, 3, 43), (43, .getfield 51, 3, 46), (46, .getfield 109, 3, 49), (49, .ireturn, 1, 50)]
theorem id_X11_duchy : ∀ q ∈ it_X11_duchy, decode cX11_duchy q.1 = .ok (q.2.1, q.2.2.1) ∧ q.1 + q.2.2.1 = q.2.2.2 := by decide +kernel
theorem dc_X11_duchy {pc : Nat} {i : Instr} {n pc' : Nat} (j : Nat) (h : it_X11_duchy[j]? = some (pc, i, n, pc')) : Dc cX11_duchy pc i n pc' := dc_of id_X11_duchy j h
abbrev rm_X11_duchy : Room := { frames := 8, cells := 0, slots := 0, locals := 177 }
def b_X11_duchy_0     (σ : MS) : Option (Int32 × MS) := (f_X2_read σ).bind (fun r4 => (if r4.1 = 0 then (f_X10_settle (wI r4.2 1 1 (0 : Int32))).bind (fun r6 => some ((sI r6 23 4), r6)) else some (((-2 : Int32) - r4.1), (wI r4.2 1 1 (0 : Int32)))))
set_option maxHeartbeats 4000000 in
set_option maxRecDepth 20000 in
theorem c_X11_duchy_0 {X : CX} {Ω : OM} (hX : CF X Ω RX11 cX11_duchy 2 (some .int) rm_X11_duchy) (hO : OKO Ω) (hΩ : oSH Ω = SHX)      (σ : MS)  : GE X Ω 2 0 0 (emWI) 0 0 0 [(0, .ref 0)] [] σ (b_X11_duchy_0  σ) := by
  unfold b_X11_duchy_0
  refine g_aload_n hX (dc_X11_duchy 0 rfl) rfl 0 rfl ?_
  refine g_getF (q := 3) hX (dc_X11_duchy 1 rfl) fl_X11_21 (by decide) rfl (stS hΩ 0 rfl) rfl ?_
  refine gV_WI (As := []) (st := []) hX (dc_X11_duchy 2 rfl) ml_X11_99 (con_X2_read hO hΩ σ) (stS hΩ 3 rfl) rfl rfl ⟨by decide, by decide⟩ ⟨rfl, rfl⟩ ⟨Nat.zero_le _, Nat.zero_le _⟩ (Nat.le_of_ble_eq_true rfl) (fun r4 _ => ?_)
  refine g_istore_n (L' := [(1, .int r4.1), (0, .ref 0)]) hX (dc_X11_duchy 3 rfl) rfl (by decide) rfl ?_
  refine g_aload_n hX (dc_X11_duchy 4 rfl) rfl 1 rfl ?_
  refine g_getF (q := 1) hX (dc_X11_duchy 5 rfl) fl_X11_10 (by decide) rfl (stS hΩ 0 rfl) rfl ?_
  refine g_iconst (w := (0 : Int32)) hX (dc_X11_duchy 6 rfl) (by decide) ?_
  refine g_putI (raw := false) hX (dc_X11_duchy 7 rfl) fl_X11_95 (by decide) ⟨rfl, rfl⟩ ⟨rfl, rfl⟩ (stS hΩ 1 rfl) ?_
  refine g_iload_n hX (dc_X11_duchy 8 rfl) rfl 0 rfl ?_
  refine g_if_eq (tgt := 25) hX (dc_X11_duchy 9 rfl) (by decide) (fun h5 => ?_) (fun h5 => ?_)
  · refine g_aload_n hX (dc_X11_duchy 14 rfl) rfl 1 rfl ?_
    refine g_getF (q := 22) hX (dc_X11_duchy 15 rfl) fl_X11_41 (by decide) rfl (stS hΩ 0 rfl) rfl ?_
    refine g_aload_n hX (dc_X11_duchy 16 rfl) rfl 1 rfl ?_
    refine g_getF (q := 3) hX (dc_X11_duchy 17 rfl) fl_X11_21 (by decide) rfl (stS hΩ 0 rfl) rfl ?_
    refine g_getF (q := 4) hX (dc_X11_duchy 18 rfl) fl_X11_103 (by decide) rfl (stS hΩ 3 rfl) rfl ?_
    refine gV_WV (As := [.ref 4]) (st := []) hX (dc_X11_duchy 19 rfl) ml_X11_106 (con_X10_settle hO hΩ (wI r4.2 1 1 (0 : Int32))) (stS hΩ 22 rfl) rfl rfl ⟨by decide, by decide⟩ ⟨rfl, rfl⟩ ⟨Nat.zero_le _, Nat.zero_le _⟩ (Nat.le_of_ble_eq_true rfl) (fun r6 _ => ?_)
    refine g_aload_n hX (dc_X11_duchy 20 rfl) rfl 1 rfl ?_
    refine g_getF (q := 22) hX (dc_X11_duchy 21 rfl) fl_X11_41 (by decide) rfl (stS hΩ 0 rfl) rfl ?_
    refine g_getF (q := 23) hX (dc_X11_duchy 22 rfl) fl_X11_51 (by decide) rfl (stS hΩ 22 rfl) rfl ?_
    refine g_getI hX (dc_X11_duchy 23 rfl) fl_X11_109 (by decide) rfl (stS hΩ 23 rfl) ?_
    exact g_iret hX (dc_X11_duchy 24 rfl) rfl rfl (Nat.le_refl _) (Nat.le_refl _)
  · refine g_bipush (w := (-2 : Int32)) hX (dc_X11_duchy 10 rfl) (by decide) ?_
    refine g_iload_n hX (dc_X11_duchy 11 rfl) rfl 0 rfl ?_
    refine g_isub hX (dc_X11_duchy 12 rfl) ?_
    exact g_iret hX (dc_X11_duchy 13 rfl) rfl rfl (Nat.le_refl _) (Nat.le_refl _)
def f_X11_duchy  (σ : MS) : Option (Int32 × MS) := b_X11_duchy_0   σ
theorem con_X11_duchy {Ω : OM} (hO : OKO Ω) (hΩ : oSH Ω = SHX)  (σ : MS)  : Con Ω yX11_duchy cX11_duchy 2 (some .int) rm_X11_duchy (emWI) [.ref 0] σ (f_X11_duchy  σ) :=
  con_of hO (by decide +kernel) (Nat.le_of_ble_eq_true rfl) rfl (fun X hX _ => c_X11_duchy_0 hX hO hΩ    σ )
def it_X11_force : List (Nat × Instr × Nat × Nat) := [(0, .iload_n 1, 1, 1), (1, .iconst (-1), 1, 2), (2, .if_icmp .lt 11, 3, 5), (5, .iload_n 1, 1, 6), (6, .aload_n 0, 1, 7), (7, .getfield 114, 3, 10), (10, .if_icmp .lt 6, 3, 13), (13, .bipush (-2), 2, 15), (15, .ireturn, 1, 16), (16, .aload_n 0, 1, 17), (17, .getfield 41, 3, 20), (20, .getfield 125, 3, 23), (23, .istore_n 2, 1, 24), (24, .aload_n 0, 1, 25), (25, .getfield 41, 3, 28), (28, .iload_n 1, 1, 29), (29, .putfield 125, 3, 32), (32, .iload_n 2, 1, 33), (33, .ireturn, 1, 34)]
theorem id_X11_force : ∀ q ∈ it_X11_force, decode cX11_force q.1 = .ok (q.2.1, q.2.2.1) ∧ q.1 + q.2.2.1 = q.2.2.2 := by decide +kernel
theorem dc_X11_force {pc : Nat} {i : Instr} {n pc' : Nat} (j : Nat) (h : it_X11_force[j]? = some (pc, i, n, pc')) : Dc cX11_force pc i n pc' := dc_of id_X11_force j h
abbrev rm_X11_force : Room := { frames := 0, cells := 0, slots := 0, locals := 0 }
def b_X11_force_13     (σ : MS) : Option (Int32 × MS) := some ((-2 : Int32), σ)
set_option maxHeartbeats 4000000 in
set_option maxRecDepth 20000 in
theorem c_X11_force_13 {X : CX} {Ω : OM} (hX : CF X Ω RX11 cX11_force 3 (some .int) rm_X11_force) (hO : OKO Ω) (hΩ : oSH Ω = SHX)      (σ : MS)  : GE X Ω 3 0 0 (emWI) 0 0 13 [] [] σ (b_X11_force_13  σ) := by
  unfold b_X11_force_13
  refine g_bipush (w := (-2 : Int32)) hX (dc_X11_force 7 rfl) (by decide) ?_
  exact g_iret hX (dc_X11_force 8 rfl) rfl rfl (Nat.le_refl _) (Nat.le_refl _)
def b_X11_force_0   (x1 : Int32)  (σ : MS) : Option (Int32 × MS) := (if x1 < (-1 : Int32) then (b_X11_force_13 σ) else (if x1 < (sI σ 0 11) then some ((sI σ 22 9), (wI σ 22 9 x1)) else (b_X11_force_13 σ)))
set_option maxHeartbeats 4000000 in
set_option maxRecDepth 20000 in
theorem c_X11_force_0 {X : CX} {Ω : OM} (hX : CF X Ω RX11 cX11_force 3 (some .int) rm_X11_force) (hO : OKO Ω) (hΩ : oSH Ω = SHX)    (x1 : Int32)  (σ : MS)  : GE X Ω 3 0 0 (emWI) 0 0 0 [(0, .ref 0), (1, .int x1)] [] σ (b_X11_force_0  x1 σ) := by
  unfold b_X11_force_0
  refine g_iload_n hX (dc_X11_force 0 rfl) rfl 1 rfl ?_
  refine g_iconst (w := (-1 : Int32)) hX (dc_X11_force 1 rfl) (by decide) ?_
  refine g_icmp_lt (tgt := 13) hX (dc_X11_force 2 rfl) (by decide) (fun h3 => ?_) (fun h3 => ?_)
  · exact g_sub [] rfl (c_X11_force_13 hX hO hΩ σ)
  · refine g_iload_n hX (dc_X11_force 3 rfl) rfl 1 rfl ?_
    refine g_aload_n hX (dc_X11_force 4 rfl) rfl 0 rfl ?_
    refine g_getI hX (dc_X11_force 5 rfl) fl_X11_114 (by decide) rfl (stS hΩ 0 rfl) ?_
    refine g_icmp_lt (tgt := 16) hX (dc_X11_force 6 rfl) (by decide) (fun h4 => ?_) (fun h4 => ?_)
    · refine g_aload_n hX (dc_X11_force 9 rfl) rfl 0 rfl ?_
      refine g_getF (q := 22) hX (dc_X11_force 10 rfl) fl_X11_41 (by decide) rfl (stS hΩ 0 rfl) rfl ?_
      refine g_getI hX (dc_X11_force 11 rfl) fl_X11_125 (by decide) rfl (stS hΩ 22 rfl) ?_
      refine g_istore_n (L' := [(2, .int (sI σ 22 9)), (0, .ref 0), (1, .int x1)]) hX (dc_X11_force 12 rfl) rfl (by decide) rfl ?_
      refine g_aload_n hX (dc_X11_force 13 rfl) rfl 1 rfl ?_
      refine g_getF (q := 22) hX (dc_X11_force 14 rfl) fl_X11_41 (by decide) rfl (stS hΩ 0 rfl) rfl ?_
      refine g_iload_n hX (dc_X11_force 15 rfl) rfl 2 rfl ?_
      refine g_putI (raw := false) hX (dc_X11_force 16 rfl) fl_X11_125 (by decide) ⟨rfl, rfl⟩ ⟨rfl, rfl⟩ (stS hΩ 22 rfl) ?_
      refine g_iload_n hX (dc_X11_force 17 rfl) rfl 0 rfl ?_
      exact g_iret hX (dc_X11_force 18 rfl) rfl rfl (Nat.le_refl _) (Nat.le_refl _)
    · exact g_sub [] rfl (c_X11_force_13 hX hO hΩ σ)
def f_X11_force (x1 : Int32) (σ : MS) : Option (Int32 × MS) := b_X11_force_0  x1 σ
theorem con_X11_force {Ω : OM} (hO : OKO Ω) (hΩ : oSH Ω = SHX) (x1 : Int32) (σ : MS)  : Con Ω yX11_force cX11_force 3 (some .int) rm_X11_force (emWI) [.ref 0, .int x1] σ (f_X11_force x1 σ) :=
  con_of hO (by decide +kernel) (Nat.le_of_ble_eq_true rfl) rfl (fun X hX _ => c_X11_force_0 hX hO hΩ   x1 σ )
def it_X11_isKind : List (Nat × Instr × Nat × Nat) := [(0, .iload_n 1, 1, 1), (1, .ifCond .lt 21, 3, 4), (4, .iload_n 1, 1, 5), (5, .aload_n 0, 1, 6), (6, .getfield 41, 3, 9), (9, .getfield 51, 3, 12), (12, .getfield 186, 3, 15), (15, .if_icmp .ge 7, 3, 18), (18, .iconst 1, 1, 19), (19, .goto 4, 3, 22), (22, .iconst 0, 1, 23), (23, .ireturn, 1, 24)]
theorem id_X11_isKind : ∀ q ∈ it_X11_isKind, decode cX11_isKind q.1 = .ok (q.2.1, q.2.2.1) ∧ q.1 + q.2.2.1 = q.2.2.2 := by decide +kernel
theorem dc_X11_isKind {pc : Nat} {i : Instr} {n pc' : Nat} (j : Nat) (h : it_X11_isKind[j]? = some (pc, i, n, pc')) : Dc cX11_isKind pc i n pc' := dc_of id_X11_isKind j h
abbrev rm_X11_isKind : Room := { frames := 0, cells := 0, slots := 0, locals := 0 }
def b_X11_isKind_23    (s0 : Int32) (σ : MS) : Option (Int32) := chk (s0 = 0 ∨ s0 = 1) (some s0)
set_option maxHeartbeats 4000000 in
set_option maxRecDepth 20000 in
theorem c_X11_isKind_23 {X : CX} {Ω : OM} (hX : CF X Ω RX11 cX11_isKind 2 (some .boolean) rm_X11_isKind) (hO : OKO Ω) (hΩ : oSH Ω = SHX)   (σ : MS)   (s0 : Int32)   : GE X Ω 2 0 0 (emPI σ) 0 0 23 [] [.int s0] σ (b_X11_isKind_23  s0 σ) := by
  unfold b_X11_isKind_23
  refine g_chk (fun hc4 => ?_)
  exact g_iret hX (dc_X11_isKind 11 rfl) (nz_bool hc4).1 rfl (Nat.le_refl _) (Nat.le_refl _)
def b_X11_isKind_22     (σ : MS) : Option (Int32) := (b_X11_isKind_23 ((0 : Int32)) σ)
set_option maxHeartbeats 4000000 in
set_option maxRecDepth 20000 in
theorem c_X11_isKind_22 {X : CX} {Ω : OM} (hX : CF X Ω RX11 cX11_isKind 2 (some .boolean) rm_X11_isKind) (hO : OKO Ω) (hΩ : oSH Ω = SHX)   (σ : MS)      : GE X Ω 2 0 0 (emPI σ) 0 0 22 [] [] σ (b_X11_isKind_22  σ) := by
  unfold b_X11_isKind_22
  refine g_iconst (w := (0 : Int32)) hX (dc_X11_isKind 10 rfl) (by decide) ?_
  exact g_sub [] rfl (c_X11_isKind_23 hX hO hΩ σ ((0 : Int32)))
def b_X11_isKind_0   (x1 : Int32)  (σ : MS) : Option (Int32) := (if x1 < 0 then (b_X11_isKind_22 σ) else (if (sI σ 23 2) ≤ x1 then (b_X11_isKind_22 σ) else (b_X11_isKind_23 ((1 : Int32)) σ)))
set_option maxHeartbeats 4000000 in
set_option maxRecDepth 20000 in
theorem c_X11_isKind_0 {X : CX} {Ω : OM} (hX : CF X Ω RX11 cX11_isKind 2 (some .boolean) rm_X11_isKind) (hO : OKO Ω) (hΩ : oSH Ω = SHX)   (σ : MS)  (x1 : Int32)    : GE X Ω 2 0 0 (emPI σ) 0 0 0 [(0, .ref 0), (1, .int x1)] [] σ (b_X11_isKind_0  x1 σ) := by
  unfold b_X11_isKind_0
  refine g_iload_n hX (dc_X11_isKind 0 rfl) rfl 1 rfl ?_
  refine g_if_lt (tgt := 22) hX (dc_X11_isKind 1 rfl) (by decide) (fun h5 => ?_) (fun h5 => ?_)
  · exact g_sub [] rfl (c_X11_isKind_22 hX hO hΩ σ)
  · refine g_iload_n hX (dc_X11_isKind 2 rfl) rfl 1 rfl ?_
    refine g_aload_n hX (dc_X11_isKind 3 rfl) rfl 0 rfl ?_
    refine g_getF (q := 22) hX (dc_X11_isKind 4 rfl) fl_X11_41 (by decide) rfl (stS hΩ 0 rfl) rfl ?_
    refine g_getF (q := 23) hX (dc_X11_isKind 5 rfl) fl_X11_51 (by decide) rfl (stS hΩ 22 rfl) rfl ?_
    refine g_getI hX (dc_X11_isKind 6 rfl) fl_X11_186 (by decide) rfl (stS hΩ 23 rfl) ?_
    refine g_icmp_ge (tgt := 22) hX (dc_X11_isKind 7 rfl) (by decide) (fun h6 => ?_) (fun h6 => ?_)
    · exact g_sub [] rfl (c_X11_isKind_22 hX hO hΩ σ)
    · refine g_iconst (w := (1 : Int32)) hX (dc_X11_isKind 8 rfl) (by decide) ?_
      refine g_goto (tgt := 23) hX (dc_X11_isKind 9 rfl) (by decide) ?_
      exact g_sub [] rfl (c_X11_isKind_23 hX hO hΩ σ ((1 : Int32)))
def f_X11_isKind (x1 : Int32) (σ : MS) : Option (Int32) := b_X11_isKind_0  x1 σ
theorem con_X11_isKind {Ω : OM} (hO : OKO Ω) (hΩ : oSH Ω = SHX) (x1 : Int32) (σ : MS)  : Con Ω yX11_isKind cX11_isKind 2 (some .boolean) rm_X11_isKind (emPI σ) [.ref 0, .int x1] σ (f_X11_isKind x1 σ) :=
  con_of hO (by decide +kernel) (Nat.le_of_ble_eq_true rfl) rfl (fun X hX _ => c_X11_isKind_0 hX hO hΩ   σ x1)
def it_X11_kind : List (Nat × Instr × Nat × Nat) := [(0, .aload_n 0, 1, 1), (1, .iload_n 1, 1, 2), (2, .invokevirtual 128, 3, 5), (5, .ifCond .ne 5, 3, 8), (8, .iconst (-1), 1, 9), (9, .ireturn, 1, 10), (10, .iload_n 2, 1, 11), (11, .lookupswitch 51 #[(0, 25), (1, 38)], 25, 36), (36, .aload_n 0, 1, 37), (37, .getfield 41, 3, 40), (40, .getfield 51, 3, 43), (43, .getfield 131, 3, 46), (46, .iload_n 1, 1, 47), (47, .iaload, 1, 48), (48, .ireturn, 1, 49), (49, .aload_n 0, 1, 50), (50, .getfield 41, 3, 53), (53, .getfield 51, 3, 56), (56, .getfield 134, 3, 59), (59, .iload_n 1, 1, 60), (60, .iaload, 1, 61), (61, .ireturn, 1, 62), (62, .iconst (-1), 1, 63), (63, .ireturn, 1, 64)]
theorem id_X11_kind : ∀ q ∈ it_X11_kind, decode cX11_kind q.1 = .ok (q.2.1, q.2.2.1) ∧ q.1 + q.2.2.1 = q.2.2.2 := by decide +kernel
theorem dc_X11_kind {pc : Nat} {i : Instr} {n pc' : Nat} (j : Nat) (h : it_X11_kind[j]? = some (pc, i, n, pc')) : Dc cX11_kind pc i n pc' := dc_of id_X11_kind j h
abbrev rm_X11_kind : Room := { frames := 1, cells := 0, slots := 0, locals := 21 }
def b_X11_kind_0   (x1 : Int32) (x2 : Int32)  (σ : MS) : Option (Int32) := (f_X11_isKind x1 σ).bind (fun r7 => (if r7 = 0 then some (-1 : Int32) else (if x2 = (0 : Int32) then chk (inb x1 5) (some (sI σ 24 (ix x1))) else (if x2 = (1 : Int32) then chk (inb x1 5) (some (sI σ 25 (ix x1))) else some (-1 : Int32)))))
set_option maxHeartbeats 4000000 in
set_option maxRecDepth 20000 in
theorem c_X11_kind_0 {X : CX} {Ω : OM} (hX : CF X Ω RX11 cX11_kind 3 (some .int) rm_X11_kind) (hO : OKO Ω) (hΩ : oSH Ω = SHX)   (σ : MS)  (x1 : Int32) (x2 : Int32)    : GE X Ω 3 0 0 (emPI σ) 0 0 0 [(0, .ref 0), (1, .int x1), (2, .int x2)] [] σ (b_X11_kind_0  x1 x2 σ) := by
  unfold b_X11_kind_0
  refine g_aload_n hX (dc_X11_kind 0 rfl) rfl 0 rfl ?_
  refine g_iload_n hX (dc_X11_kind 1 rfl) rfl 1 rfl ?_
  refine gV_PI (As := [.int x1]) (st := []) hX (dc_X11_kind 2 rfl) ml_X11_128 (con_X11_isKind hO hΩ x1 σ) (stS hΩ 0 rfl) rfl rfl ⟨by decide, by decide⟩ ⟨rfl, rfl⟩ ⟨Nat.zero_le _, Nat.zero_le _⟩ (Nat.le_of_ble_eq_true rfl) (fun r7 _ => ?_)
  refine g_if_ne (tgt := 10) hX (dc_X11_kind 3 rfl) (by decide) (fun h8 => ?_) (fun h8 => ?_)
  · refine g_iconst (w := (-1 : Int32)) hX (dc_X11_kind 4 rfl) (by decide) ?_
    exact g_iret hX (dc_X11_kind 5 rfl) rfl rfl (Nat.le_refl _) (Nat.le_refl _)
  · refine g_iload_n hX (dc_X11_kind 6 rfl) rfl 2 rfl ?_
    refine g_ite (fun h9 => ?_) (fun h9 => ?_)
    · refine g_lks (off := 25) (tgt := 36) hX (dc_X11_kind 7 rfl) (by decide) (by rw [h9]; decide) (by decide) ?_
      refine g_aload_n hX (dc_X11_kind 8 rfl) rfl 0 rfl ?_
      refine g_getF (q := 22) hX (dc_X11_kind 9 rfl) fl_X11_41 (by decide) rfl (stS hΩ 0 rfl) rfl ?_
      refine g_getF (q := 23) hX (dc_X11_kind 10 rfl) fl_X11_51 (by decide) rfl (stS hΩ 22 rfl) rfl ?_
      refine g_getF (q := 24) hX (dc_X11_kind 11 rfl) fl_X11_131 (by decide) rfl (stS hΩ 23 rfl) rfl ?_
      refine g_iload_n hX (dc_X11_kind 12 rfl) rfl 1 rfl ?_
      refine g_chk (fun hc11 => ?_)
      refine g_iald hX (dc_X11_kind 13 rfl) (stS hΩ 24 rfl) hc11 rfl ?_
      exact g_iret hX (dc_X11_kind 14 rfl) rfl rfl (Nat.le_refl _) (Nat.le_refl _)
    · refine g_ite (fun h10 => ?_) (fun h10 => ?_)
      · refine g_lks (off := 38) (tgt := 49) hX (dc_X11_kind 7 rfl) (by decide) (by rw [h10]; decide) (by decide) ?_
        refine g_aload_n hX (dc_X11_kind 15 rfl) rfl 0 rfl ?_
        refine g_getF (q := 22) hX (dc_X11_kind 16 rfl) fl_X11_41 (by decide) rfl (stS hΩ 0 rfl) rfl ?_
        refine g_getF (q := 23) hX (dc_X11_kind 17 rfl) fl_X11_51 (by decide) rfl (stS hΩ 22 rfl) rfl ?_
        refine g_getF (q := 25) hX (dc_X11_kind 18 rfl) fl_X11_134 (by decide) rfl (stS hΩ 23 rfl) rfl ?_
        refine g_iload_n hX (dc_X11_kind 19 rfl) rfl 1 rfl ?_
        refine g_chk (fun hc12 => ?_)
        refine g_iald hX (dc_X11_kind 20 rfl) (stS hΩ 25 rfl) hc12 rfl ?_
        exact g_iret hX (dc_X11_kind 21 rfl) rfl rfl (Nat.le_refl _) (Nat.le_refl _)
      · refine g_lks (off := 51) (tgt := 62) hX (dc_X11_kind 7 rfl) (by decide) (by have e0 := i32ne h9 (k := 0) (by decide); have e1 := i32ne h10 (k := 1) (by decide); simp [Op.lookupswitch.offset, e0, Ne.symm e0, e1, Ne.symm e1]) (by decide) ?_
        refine g_iconst (w := (-1 : Int32)) hX (dc_X11_kind 22 rfl) (by decide) ?_
        exact g_iret hX (dc_X11_kind 23 rfl) rfl rfl (Nat.le_refl _) (Nat.le_refl _)
def f_X11_kind (x1 : Int32) (x2 : Int32) (σ : MS) : Option (Int32) := b_X11_kind_0  x1 x2 σ
theorem con_X11_kind {Ω : OM} (hO : OKO Ω) (hΩ : oSH Ω = SHX) (x1 : Int32) (x2 : Int32) (σ : MS)  : Con Ω yX11_kind cX11_kind 3 (some .int) rm_X11_kind (emPI σ) [.ref 0, .int x1, .int x2] σ (f_X11_kind x1 x2 σ) :=
  con_of hO (by decide +kernel) (Nat.le_of_ble_eq_true rfl) rfl (fun X hX _ => c_X11_kind_0 hX hO hΩ   σ x1 x2)
def it_X11_isPerson : List (Nat × Instr × Nat × Nat) := [(0, .iload_n 1, 1, 1), (1, .ifCond .lt 21, 3, 4), (4, .iload_n 1, 1, 5), (5, .aload_n 0, 1, 6), (6, .getfield 41, 3, 9), (9, .getfield 51, 3, 12), (12, .getfield 189, 3, 15), (15, .if_icmp .ge 7, 3, 18), (18, .iconst 1, 1, 19), (19, .goto 4, 3, 22), (22, .iconst 0, 1, 23), (23, .ireturn, 1, 24)]
theorem id_X11_isPerson : ∀ q ∈ it_X11_isPerson, decode cX11_isPerson q.1 = .ok (q.2.1, q.2.2.1) ∧ q.1 + q.2.2.1 = q.2.2.2 := by decide +kernel
theorem dc_X11_isPerson {pc : Nat} {i : Instr} {n pc' : Nat} (j : Nat) (h : it_X11_isPerson[j]? = some (pc, i, n, pc')) : Dc cX11_isPerson pc i n pc' := dc_of id_X11_isPerson j h
abbrev rm_X11_isPerson : Room := { frames := 0, cells := 0, slots := 0, locals := 0 }
def b_X11_isPerson_23    (s0 : Int32) (σ : MS) : Option (Int32) := chk (s0 = 0 ∨ s0 = 1) (some s0)
set_option maxHeartbeats 4000000 in
set_option maxRecDepth 20000 in
theorem c_X11_isPerson_23 {X : CX} {Ω : OM} (hX : CF X Ω RX11 cX11_isPerson 2 (some .boolean) rm_X11_isPerson) (hO : OKO Ω) (hΩ : oSH Ω = SHX)   (σ : MS)   (s0 : Int32)   : GE X Ω 2 0 0 (emPI σ) 0 0 23 [] [.int s0] σ (b_X11_isPerson_23  s0 σ) := by
  unfold b_X11_isPerson_23
  refine g_chk (fun hc4 => ?_)
  exact g_iret hX (dc_X11_isPerson 11 rfl) (nz_bool hc4).1 rfl (Nat.le_refl _) (Nat.le_refl _)
def b_X11_isPerson_22     (σ : MS) : Option (Int32) := (b_X11_isPerson_23 ((0 : Int32)) σ)
set_option maxHeartbeats 4000000 in
set_option maxRecDepth 20000 in
theorem c_X11_isPerson_22 {X : CX} {Ω : OM} (hX : CF X Ω RX11 cX11_isPerson 2 (some .boolean) rm_X11_isPerson) (hO : OKO Ω) (hΩ : oSH Ω = SHX)   (σ : MS)      : GE X Ω 2 0 0 (emPI σ) 0 0 22 [] [] σ (b_X11_isPerson_22  σ) := by
  unfold b_X11_isPerson_22
  refine g_iconst (w := (0 : Int32)) hX (dc_X11_isPerson 10 rfl) (by decide) ?_
  exact g_sub [] rfl (c_X11_isPerson_23 hX hO hΩ σ ((0 : Int32)))
def b_X11_isPerson_0   (x1 : Int32)  (σ : MS) : Option (Int32) := (if x1 < 0 then (b_X11_isPerson_22 σ) else (if (sI σ 23 3) ≤ x1 then (b_X11_isPerson_22 σ) else (b_X11_isPerson_23 ((1 : Int32)) σ)))
set_option maxHeartbeats 4000000 in
set_option maxRecDepth 20000 in
theorem c_X11_isPerson_0 {X : CX} {Ω : OM} (hX : CF X Ω RX11 cX11_isPerson 2 (some .boolean) rm_X11_isPerson) (hO : OKO Ω) (hΩ : oSH Ω = SHX)   (σ : MS)  (x1 : Int32)    : GE X Ω 2 0 0 (emPI σ) 0 0 0 [(0, .ref 0), (1, .int x1)] [] σ (b_X11_isPerson_0  x1 σ) := by
  unfold b_X11_isPerson_0
  refine g_iload_n hX (dc_X11_isPerson 0 rfl) rfl 1 rfl ?_
  refine g_if_lt (tgt := 22) hX (dc_X11_isPerson 1 rfl) (by decide) (fun h5 => ?_) (fun h5 => ?_)
  · exact g_sub [] rfl (c_X11_isPerson_22 hX hO hΩ σ)
  · refine g_iload_n hX (dc_X11_isPerson 2 rfl) rfl 1 rfl ?_
    refine g_aload_n hX (dc_X11_isPerson 3 rfl) rfl 0 rfl ?_
    refine g_getF (q := 22) hX (dc_X11_isPerson 4 rfl) fl_X11_41 (by decide) rfl (stS hΩ 0 rfl) rfl ?_
    refine g_getF (q := 23) hX (dc_X11_isPerson 5 rfl) fl_X11_51 (by decide) rfl (stS hΩ 22 rfl) rfl ?_
    refine g_getI hX (dc_X11_isPerson 6 rfl) fl_X11_189 (by decide) rfl (stS hΩ 23 rfl) ?_
    refine g_icmp_ge (tgt := 22) hX (dc_X11_isPerson 7 rfl) (by decide) (fun h6 => ?_) (fun h6 => ?_)
    · exact g_sub [] rfl (c_X11_isPerson_22 hX hO hΩ σ)
    · refine g_iconst (w := (1 : Int32)) hX (dc_X11_isPerson 8 rfl) (by decide) ?_
      refine g_goto (tgt := 23) hX (dc_X11_isPerson 9 rfl) (by decide) ?_
      exact g_sub [] rfl (c_X11_isPerson_23 hX hO hΩ σ ((1 : Int32)))
def f_X11_isPerson (x1 : Int32) (σ : MS) : Option (Int32) := b_X11_isPerson_0  x1 σ
theorem con_X11_isPerson {Ω : OM} (hO : OKO Ω) (hΩ : oSH Ω = SHX) (x1 : Int32) (σ : MS)  : Con Ω yX11_isPerson cX11_isPerson 2 (some .boolean) rm_X11_isPerson (emPI σ) [.ref 0, .int x1] σ (f_X11_isPerson x1 σ) :=
  con_of hO (by decide +kernel) (Nat.le_of_ble_eq_true rfl) rfl (fun X hX _ => c_X11_isPerson_0 hX hO hΩ   σ x1)
def it_X11_isAwake : List (Nat × Instr × Nat × Nat) := [(0, .aload_n 0, 1, 1), (1, .iload_n 1, 1, 2), (2, .invokevirtual 137, 3, 5), (5, .ifCond .eq 31, 3, 8), (8, .aload_n 0, 1, 9), (9, .getfield 41, 3, 12), (12, .getfield 51, 3, 15), (15, .iload_n 1, 1, 16), (16, .aload_n 0, 1, 17), (17, .getfield 41, 3, 20), (20, .getfield 140, 3, 23), (23, .getfield 192, 3, 26), (26, .invokevirtual 213, 3, 29), (29, .ifCond .ne 7, 3, 32), (32, .iconst 1, 1, 33), (33, .goto 4, 3, 36), (36, .iconst 0, 1, 37), (37, .ireturn, 1, 38)]
theorem id_X11_isAwake : ∀ q ∈ it_X11_isAwake, decode cX11_isAwake q.1 = .ok (q.2.1, q.2.2.1) ∧ q.1 + q.2.2.1 = q.2.2.2 := by decide +kernel
theorem dc_X11_isAwake {pc : Nat} {i : Instr} {n pc' : Nat} (j : Nat) (h : it_X11_isAwake[j]? = some (pc, i, n, pc')) : Dc cX11_isAwake pc i n pc' := dc_of id_X11_isAwake j h
abbrev rm_X11_isAwake : Room := { frames := 2, cells := 0, slots := 0, locals := 44 }
def b_X11_isAwake_37    (s0 : Int32) (σ : MS) : Option (Int32) := chk (s0 = 0 ∨ s0 = 1) (some s0)
set_option maxHeartbeats 4000000 in
set_option maxRecDepth 20000 in
theorem c_X11_isAwake_37 {X : CX} {Ω : OM} (hX : CF X Ω RX11 cX11_isAwake 2 (some .boolean) rm_X11_isAwake) (hO : OKO Ω) (hΩ : oSH Ω = SHX)   (σ : MS)   (s0 : Int32)   : GE X Ω 2 0 0 (emPI σ) 0 0 37 [] [.int s0] σ (b_X11_isAwake_37  s0 σ) := by
  unfold b_X11_isAwake_37
  refine g_chk (fun hc6 => ?_)
  exact g_iret hX (dc_X11_isAwake 17 rfl) (nz_bool hc6).1 rfl (Nat.le_refl _) (Nat.le_refl _)
def b_X11_isAwake_36     (σ : MS) : Option (Int32) := (b_X11_isAwake_37 ((0 : Int32)) σ)
set_option maxHeartbeats 4000000 in
set_option maxRecDepth 20000 in
theorem c_X11_isAwake_36 {X : CX} {Ω : OM} (hX : CF X Ω RX11 cX11_isAwake 2 (some .boolean) rm_X11_isAwake) (hO : OKO Ω) (hΩ : oSH Ω = SHX)   (σ : MS)      : GE X Ω 2 0 0 (emPI σ) 0 0 36 [] [] σ (b_X11_isAwake_36  σ) := by
  unfold b_X11_isAwake_36
  refine g_iconst (w := (0 : Int32)) hX (dc_X11_isAwake 16 rfl) (by decide) ?_
  exact g_sub [] rfl (c_X11_isAwake_37 hX hO hΩ σ ((0 : Int32)))
def b_X11_isAwake_0   (x1 : Int32)  (σ : MS) : Option (Int32) := (f_X11_isPerson x1 σ).bind (fun r7 => (if r7 = 0 then (b_X11_isAwake_36 σ) else (f_X3_isAsleep x1 (sI σ 35 5) σ).bind (fun r9 => (if r9 = 0 then (b_X11_isAwake_37 ((1 : Int32)) σ) else (b_X11_isAwake_36 σ)))))
set_option maxHeartbeats 4000000 in
set_option maxRecDepth 20000 in
theorem c_X11_isAwake_0 {X : CX} {Ω : OM} (hX : CF X Ω RX11 cX11_isAwake 2 (some .boolean) rm_X11_isAwake) (hO : OKO Ω) (hΩ : oSH Ω = SHX)   (σ : MS)  (x1 : Int32)    : GE X Ω 2 0 0 (emPI σ) 0 0 0 [(0, .ref 0), (1, .int x1)] [] σ (b_X11_isAwake_0  x1 σ) := by
  unfold b_X11_isAwake_0
  refine g_aload_n hX (dc_X11_isAwake 0 rfl) rfl 0 rfl ?_
  refine g_iload_n hX (dc_X11_isAwake 1 rfl) rfl 1 rfl ?_
  refine gV_PI (As := [.int x1]) (st := []) hX (dc_X11_isAwake 2 rfl) ml_X11_137 (con_X11_isPerson hO hΩ x1 σ) (stS hΩ 0 rfl) rfl rfl ⟨by decide, by decide⟩ ⟨rfl, rfl⟩ ⟨Nat.zero_le _, Nat.zero_le _⟩ (Nat.le_of_ble_eq_true rfl) (fun r7 _ => ?_)
  refine g_if_eq (tgt := 36) hX (dc_X11_isAwake 3 rfl) (by decide) (fun h8 => ?_) (fun h8 => ?_)
  · exact g_sub [] rfl (c_X11_isAwake_36 hX hO hΩ σ)
  · refine g_aload_n hX (dc_X11_isAwake 4 rfl) rfl 0 rfl ?_
    refine g_getF (q := 22) hX (dc_X11_isAwake 5 rfl) fl_X11_41 (by decide) rfl (stS hΩ 0 rfl) rfl ?_
    refine g_getF (q := 23) hX (dc_X11_isAwake 6 rfl) fl_X11_51 (by decide) rfl (stS hΩ 22 rfl) rfl ?_
    refine g_iload_n hX (dc_X11_isAwake 7 rfl) rfl 1 rfl ?_
    refine g_aload_n hX (dc_X11_isAwake 8 rfl) rfl 0 rfl ?_
    refine g_getF (q := 22) hX (dc_X11_isAwake 9 rfl) fl_X11_41 (by decide) rfl (stS hΩ 0 rfl) rfl ?_
    refine g_getF (q := 35) hX (dc_X11_isAwake 10 rfl) fl_X11_140 (by decide) rfl (stS hΩ 22 rfl) rfl ?_
    refine g_getI hX (dc_X11_isAwake 11 rfl) fl_X11_192 (by decide) rfl (stS hΩ 35 rfl) ?_
    refine gV_PI (As := [.int x1, .int (sI σ 35 5)]) (st := []) hX (dc_X11_isAwake 12 rfl) ml_X11_213 (con_X3_isAsleep hO hΩ x1 (sI σ 35 5) σ) (stS hΩ 23 rfl) rfl rfl ⟨by decide, by decide⟩ ⟨rfl, rfl⟩ ⟨Nat.zero_le _, Nat.zero_le _⟩ (Nat.le_of_ble_eq_true rfl) (fun r9 _ => ?_)
    refine g_if_ne (tgt := 36) hX (dc_X11_isAwake 13 rfl) (by decide) (fun h10 => ?_) (fun h10 => ?_)
    · refine g_iconst (w := (1 : Int32)) hX (dc_X11_isAwake 14 rfl) (by decide) ?_
      refine g_goto (tgt := 37) hX (dc_X11_isAwake 15 rfl) (by decide) ?_
      exact g_sub [] rfl (c_X11_isAwake_37 hX hO hΩ σ ((1 : Int32)))
    · exact g_sub [] rfl (c_X11_isAwake_36 hX hO hΩ σ)
def f_X11_isAwake (x1 : Int32) (σ : MS) : Option (Int32) := b_X11_isAwake_0  x1 σ
theorem con_X11_isAwake {Ω : OM} (hO : OKO Ω) (hΩ : oSH Ω = SHX) (x1 : Int32) (σ : MS)  : Con Ω yX11_isAwake cX11_isAwake 2 (some .boolean) rm_X11_isAwake (emPI σ) [.ref 0, .int x1] σ (f_X11_isAwake x1 σ) :=
  con_of hO (by decide +kernel) (Nat.le_of_ble_eq_true rfl) rfl (fun X hX _ => c_X11_isAwake_0 hX hO hΩ   σ x1)
def it_X11_person : List (Nat × Instr × Nat × Nat) := [(0, .aload_n 0, 1, 1), (1, .iload_n 1, 1, 2), (2, .invokevirtual 137, 3, 5), (5, .ifCond .ne 5, 3, 8), (8, .iconst (-1), 1, 9), (9, .ireturn, 1, 10), (10, .aload_n 0, 1, 11), (11, .getfield 41, 3, 14), (14, .getfield 51, 3, 17), (17, .astore_n 3, 1, 18), (18, .iload_n 2, 1, 19), (19, .tableswitch 97 0 5 #[37, 50, 57, 64, 71, 83], 37, 56), (56, .aload_n 0, 1, 57), (57, .getfield 41, 3, 60), (60, .getfield 140, 3, 63), (63, .getfield 143, 3, 66), (66, .iload_n 1, 1, 67), (67, .iaload, 1, 68), (68, .ireturn, 1, 69), (69, .aload_n 3, 1, 70), (70, .getfield 146, 3, 73), (73, .iload_n 1, 1, 74), (74, .iaload, 1, 75), (75, .ireturn, 1, 76), (76, .aload_n 3, 1, 77), (77, .getfield 149, 3, 80), (80, .iload_n 1, 1, 81), (81, .iaload, 1, 82), (82, .ireturn, 1, 83), (83, .aload_n 3, 1, 84), (84, .getfield 152, 3, 87), (87, .iload_n 1, 1, 88), (88, .iaload, 1, 89), (89, .ireturn, 1, 90), (90, .aload_n 0, 1, 91), (91, .getfield 41, 3, 94), (94, .getfield 140, 3, 97), (97, .iload_n 1, 1, 98), (98, .invokevirtual 155, 3, 101), (101, .ireturn, 1, 102), (102, .aload_n 0, 1, 103), (103, .iload_n 1, 1, 104), (104, .invokevirtual 159, 3, 107), (107, .ifCond .eq 7, 3, 110), (110, .iconst 1, 1, 111), (111, .goto 4, 3, 114), (114, .iconst 0, 1, 115), (115, .ireturn, 1, 116), (116, .iconst (-1), 1, 117), (117, .ireturn, 1, 118)]
theorem id_X11_person : ∀ q ∈ it_X11_person, decode cX11_person q.1 = .ok (q.2.1, q.2.2.1) ∧ q.1 + q.2.2.1 = q.2.2.2 := by decide +kernel
theorem dc_X11_person {pc : Nat} {i : Instr} {n pc' : Nat} (j : Nat) (h : it_X11_person[j]? = some (pc, i, n, pc')) : Dc cX11_person pc i n pc' := dc_of id_X11_person j h
abbrev rm_X11_person : Room := { frames := 3, cells := 0, slots := 0, locals := 65 }
def b_X11_person_115    (s0 : Int32) (σ : MS) : Option (Int32) := some s0
set_option maxHeartbeats 4000000 in
set_option maxRecDepth 20000 in
theorem c_X11_person_115 {X : CX} {Ω : OM} (hX : CF X Ω RX11 cX11_person 4 (some .int) rm_X11_person) (hO : OKO Ω) (hΩ : oSH Ω = SHX)   (σ : MS)   (s0 : Int32)   : GE X Ω 4 0 0 (emPI σ) 0 0 115 [] [.int s0] σ (b_X11_person_115  s0 σ) := by
  unfold b_X11_person_115
  exact g_iret hX (dc_X11_person 47 rfl) rfl rfl (Nat.le_refl _) (Nat.le_refl _)
def b_X11_person_0   (x1 : Int32) (x2 : Int32)  (σ : MS) : Option (Int32) := (f_X11_isPerson x1 σ).bind (fun r16 => (if r16 = 0 then some (-1 : Int32) else (if x2 = (0 : Int32) then chk (inb x1 4) (some (sI σ 38 (ix x1))) else (if x2 = (1 : Int32) then chk (inb x1 4) (some (sI σ 26 (ix x1))) else (if x2 = (2 : Int32) then chk (inb x1 4) (some (sI σ 27 (ix x1))) else (if x2 = (3 : Int32) then chk (inb x1 4) (some (sI σ 28 (ix x1))) else (if x2 = (4 : Int32) then (f_X8_worksHeldBy 35 x1 σ).bind (fun r28 => some r28) else (if x2 = (5 : Int32) then (f_X11_isAwake x1 σ).bind (fun r29 => (if r29 = 0 then (b_X11_person_115 ((0 : Int32)) σ) else (b_X11_person_115 ((1 : Int32)) σ))) else some (-1 : Int32)))))))))
set_option maxHeartbeats 4000000 in
set_option maxRecDepth 20000 in
theorem c_X11_person_0 {X : CX} {Ω : OM} (hX : CF X Ω RX11 cX11_person 4 (some .int) rm_X11_person) (hO : OKO Ω) (hΩ : oSH Ω = SHX)   (σ : MS)  (x1 : Int32) (x2 : Int32)    : GE X Ω 4 0 0 (emPI σ) 0 0 0 [(0, .ref 0), (1, .int x1), (2, .int x2)] [] σ (b_X11_person_0  x1 x2 σ) := by
  unfold b_X11_person_0
  refine g_aload_n hX (dc_X11_person 0 rfl) rfl 0 rfl ?_
  refine g_iload_n hX (dc_X11_person 1 rfl) rfl 1 rfl ?_
  refine gV_PI (As := [.int x1]) (st := []) hX (dc_X11_person 2 rfl) ml_X11_137 (con_X11_isPerson hO hΩ x1 σ) (stS hΩ 0 rfl) rfl rfl ⟨by decide, by decide⟩ ⟨rfl, rfl⟩ ⟨Nat.zero_le _, Nat.zero_le _⟩ (Nat.le_of_ble_eq_true rfl) (fun r16 _ => ?_)
  refine g_if_ne (tgt := 10) hX (dc_X11_person 3 rfl) (by decide) (fun h17 => ?_) (fun h17 => ?_)
  · refine g_iconst (w := (-1 : Int32)) hX (dc_X11_person 4 rfl) (by decide) ?_
    exact g_iret hX (dc_X11_person 5 rfl) rfl rfl (Nat.le_refl _) (Nat.le_refl _)
  · refine g_aload_n hX (dc_X11_person 6 rfl) rfl 0 rfl ?_
    refine g_getF (q := 22) hX (dc_X11_person 7 rfl) fl_X11_41 (by decide) rfl (stS hΩ 0 rfl) rfl ?_
    refine g_getF (q := 23) hX (dc_X11_person 8 rfl) fl_X11_51 (by decide) rfl (stS hΩ 22 rfl) rfl ?_
    refine g_astore_n (L' := [(3, .ref 23), (0, .ref 0), (1, .int x1), (2, .int x2)]) hX (dc_X11_person 9 rfl) rfl (by decide) rfl ?_
    refine g_iload_n hX (dc_X11_person 10 rfl) rfl 3 rfl ?_
    refine g_ite (fun h18 => ?_) (fun h18 => ?_)
    · refine g_tsIn (off := 37) (tgt := 56) hX (dc_X11_person 11 rfl) (by rw [h18]; decide) (by rw [h18]; decide) (by rw [h18]; rfl) (by decide) ?_
      refine g_aload_n hX (dc_X11_person 12 rfl) rfl 1 rfl ?_
      refine g_getF (q := 22) hX (dc_X11_person 13 rfl) fl_X11_41 (by decide) rfl (stS hΩ 0 rfl) rfl ?_
      refine g_getF (q := 35) hX (dc_X11_person 14 rfl) fl_X11_140 (by decide) rfl (stS hΩ 22 rfl) rfl ?_
      refine g_getF (q := 38) hX (dc_X11_person 15 rfl) fl_X11_143 (by decide) rfl (stS hΩ 35 rfl) rfl ?_
      refine g_iload_n hX (dc_X11_person 16 rfl) rfl 2 rfl ?_
      refine g_chk (fun hc24 => ?_)
      refine g_iald hX (dc_X11_person 17 rfl) (stS hΩ 38 rfl) hc24 rfl ?_
      exact g_iret hX (dc_X11_person 18 rfl) rfl rfl (Nat.le_refl _) (Nat.le_refl _)
    · refine g_ite (fun h19 => ?_) (fun h19 => ?_)
      · refine g_tsIn (off := 50) (tgt := 69) hX (dc_X11_person 11 rfl) (by rw [h19]; decide) (by rw [h19]; decide) (by rw [h19]; rfl) (by decide) ?_
        refine g_aload_n hX (dc_X11_person 19 rfl) rfl 0 rfl ?_
        refine g_getF (q := 26) hX (dc_X11_person 20 rfl) fl_X11_146 (by decide) rfl (stS hΩ 23 rfl) rfl ?_
        refine g_iload_n hX (dc_X11_person 21 rfl) rfl 2 rfl ?_
        refine g_chk (fun hc25 => ?_)
        refine g_iald hX (dc_X11_person 22 rfl) (stS hΩ 26 rfl) hc25 rfl ?_
        exact g_iret hX (dc_X11_person 23 rfl) rfl rfl (Nat.le_refl _) (Nat.le_refl _)
      · refine g_ite (fun h20 => ?_) (fun h20 => ?_)
        · refine g_tsIn (off := 57) (tgt := 76) hX (dc_X11_person 11 rfl) (by rw [h20]; decide) (by rw [h20]; decide) (by rw [h20]; rfl) (by decide) ?_
          refine g_aload_n hX (dc_X11_person 24 rfl) rfl 0 rfl ?_
          refine g_getF (q := 27) hX (dc_X11_person 25 rfl) fl_X11_149 (by decide) rfl (stS hΩ 23 rfl) rfl ?_
          refine g_iload_n hX (dc_X11_person 26 rfl) rfl 2 rfl ?_
          refine g_chk (fun hc26 => ?_)
          refine g_iald hX (dc_X11_person 27 rfl) (stS hΩ 27 rfl) hc26 rfl ?_
          exact g_iret hX (dc_X11_person 28 rfl) rfl rfl (Nat.le_refl _) (Nat.le_refl _)
        · refine g_ite (fun h21 => ?_) (fun h21 => ?_)
          · refine g_tsIn (off := 64) (tgt := 83) hX (dc_X11_person 11 rfl) (by rw [h21]; decide) (by rw [h21]; decide) (by rw [h21]; rfl) (by decide) ?_
            refine g_aload_n hX (dc_X11_person 29 rfl) rfl 0 rfl ?_
            refine g_getF (q := 28) hX (dc_X11_person 30 rfl) fl_X11_152 (by decide) rfl (stS hΩ 23 rfl) rfl ?_
            refine g_iload_n hX (dc_X11_person 31 rfl) rfl 2 rfl ?_
            refine g_chk (fun hc27 => ?_)
            refine g_iald hX (dc_X11_person 32 rfl) (stS hΩ 28 rfl) hc27 rfl ?_
            exact g_iret hX (dc_X11_person 33 rfl) rfl rfl (Nat.le_refl _) (Nat.le_refl _)
          · refine g_ite (fun h22 => ?_) (fun h22 => ?_)
            · refine g_tsIn (off := 71) (tgt := 90) hX (dc_X11_person 11 rfl) (by rw [h22]; decide) (by rw [h22]; decide) (by rw [h22]; rfl) (by decide) ?_
              refine g_aload_n hX (dc_X11_person 34 rfl) rfl 1 rfl ?_
              refine g_getF (q := 22) hX (dc_X11_person 35 rfl) fl_X11_41 (by decide) rfl (stS hΩ 0 rfl) rfl ?_
              refine g_getF (q := 35) hX (dc_X11_person 36 rfl) fl_X11_140 (by decide) rfl (stS hΩ 22 rfl) rfl ?_
              refine g_iload_n hX (dc_X11_person 37 rfl) rfl 2 rfl ?_
              refine gV_PI (As := [.int x1]) (st := []) hX (dc_X11_person 38 rfl) ml_X11_155 (con_X8_worksHeldBy hO hΩ 35 x1 σ (stR hΩ 35 (by decide))) (stS hΩ 35 rfl) rfl rfl ⟨by decide, by decide⟩ ⟨rfl, rfl⟩ ⟨Nat.zero_le _, Nat.zero_le _⟩ (Nat.le_of_ble_eq_true rfl) (fun r28 _ => ?_)
              exact g_iret hX (dc_X11_person 39 rfl) rfl rfl (Nat.le_refl _) (Nat.le_refl _)
            · refine g_ite (fun h23 => ?_) (fun h23 => ?_)
              · refine g_tsIn (off := 83) (tgt := 102) hX (dc_X11_person 11 rfl) (by rw [h23]; decide) (by rw [h23]; decide) (by rw [h23]; rfl) (by decide) ?_
                refine g_aload_n hX (dc_X11_person 40 rfl) rfl 1 rfl ?_
                refine g_iload_n hX (dc_X11_person 41 rfl) rfl 2 rfl ?_
                refine gV_PI (As := [.int x1]) (st := []) hX (dc_X11_person 42 rfl) ml_X11_159 (con_X11_isAwake hO hΩ x1 σ) (stS hΩ 0 rfl) rfl rfl ⟨by decide, by decide⟩ ⟨rfl, rfl⟩ ⟨Nat.zero_le _, Nat.zero_le _⟩ (Nat.le_of_ble_eq_true rfl) (fun r29 _ => ?_)
                refine g_if_eq (tgt := 114) hX (dc_X11_person 43 rfl) (by decide) (fun h30 => ?_) (fun h30 => ?_)
                · refine g_iconst (w := (0 : Int32)) hX (dc_X11_person 46 rfl) (by decide) ?_
                  exact g_sub [] rfl (c_X11_person_115 hX hO hΩ σ ((0 : Int32)))
                · refine g_iconst (w := (1 : Int32)) hX (dc_X11_person 44 rfl) (by decide) ?_
                  refine g_goto (tgt := 115) hX (dc_X11_person 45 rfl) (by decide) ?_
                  exact g_sub [] rfl (c_X11_person_115 hX hO hΩ σ ((1 : Int32)))
              · refine g_tsOut (tgt := 116) hX (dc_X11_person 11 rfl) (by have e0 := i32ne h18 (k := 0) (by decide); have e1 := i32ne h19 (k := 1) (by decide); have e2 := i32ne h20 (k := 2) (by decide); have e3 := i32ne h21 (k := 3) (by decide); have e4 := i32ne h22 (k := 4) (by decide); have e5 := i32ne h23 (k := 5) (by decide); omega) (by decide) ?_
                refine g_iconst (w := (-1 : Int32)) hX (dc_X11_person 48 rfl) (by decide) ?_
                exact g_iret hX (dc_X11_person 49 rfl) rfl rfl (Nat.le_refl _) (Nat.le_refl _)
def f_X11_person (x1 : Int32) (x2 : Int32) (σ : MS) : Option (Int32) := b_X11_person_0  x1 x2 σ
theorem con_X11_person {Ω : OM} (hO : OKO Ω) (hΩ : oSH Ω = SHX) (x1 : Int32) (x2 : Int32) (σ : MS)  : Con Ω yX11_person cX11_person 4 (some .int) rm_X11_person (emPI σ) [.ref 0, .int x1, .int x2] σ (f_X11_person x1 x2 σ) :=
  con_of hO (by decide +kernel) (Nat.le_of_ble_eq_true rfl) rfl (fun X hX _ => c_X11_person_0 hX hO hΩ   σ x1 x2)
def it_X11_isWork : List (Nat × Instr × Nat × Nat) := [(0, .iload_n 1, 1, 1), (1, .ifCond .lt 21, 3, 4), (4, .iload_n 1, 1, 5), (5, .aload_n 0, 1, 6), (6, .getfield 41, 3, 9), (9, .getfield 51, 3, 12), (12, .getfield 109, 3, 15), (15, .if_icmp .ge 7, 3, 18), (18, .iconst 1, 1, 19), (19, .goto 4, 3, 22), (22, .iconst 0, 1, 23), (23, .ireturn, 1, 24)]
theorem id_X11_isWork : ∀ q ∈ it_X11_isWork, decode cX11_isWork q.1 = .ok (q.2.1, q.2.2.1) ∧ q.1 + q.2.2.1 = q.2.2.2 := by decide +kernel
theorem dc_X11_isWork {pc : Nat} {i : Instr} {n pc' : Nat} (j : Nat) (h : it_X11_isWork[j]? = some (pc, i, n, pc')) : Dc cX11_isWork pc i n pc' := dc_of id_X11_isWork j h
abbrev rm_X11_isWork : Room := { frames := 0, cells := 0, slots := 0, locals := 0 }
def b_X11_isWork_23    (s0 : Int32) (σ : MS) : Option (Int32) := chk (s0 = 0 ∨ s0 = 1) (some s0)
set_option maxHeartbeats 4000000 in
set_option maxRecDepth 20000 in
theorem c_X11_isWork_23 {X : CX} {Ω : OM} (hX : CF X Ω RX11 cX11_isWork 2 (some .boolean) rm_X11_isWork) (hO : OKO Ω) (hΩ : oSH Ω = SHX)   (σ : MS)   (s0 : Int32)   : GE X Ω 2 0 0 (emPI σ) 0 0 23 [] [.int s0] σ (b_X11_isWork_23  s0 σ) := by
  unfold b_X11_isWork_23
  refine g_chk (fun hc4 => ?_)
  exact g_iret hX (dc_X11_isWork 11 rfl) (nz_bool hc4).1 rfl (Nat.le_refl _) (Nat.le_refl _)
def b_X11_isWork_22     (σ : MS) : Option (Int32) := (b_X11_isWork_23 ((0 : Int32)) σ)
set_option maxHeartbeats 4000000 in
set_option maxRecDepth 20000 in
theorem c_X11_isWork_22 {X : CX} {Ω : OM} (hX : CF X Ω RX11 cX11_isWork 2 (some .boolean) rm_X11_isWork) (hO : OKO Ω) (hΩ : oSH Ω = SHX)   (σ : MS)      : GE X Ω 2 0 0 (emPI σ) 0 0 22 [] [] σ (b_X11_isWork_22  σ) := by
  unfold b_X11_isWork_22
  refine g_iconst (w := (0 : Int32)) hX (dc_X11_isWork 10 rfl) (by decide) ?_
  exact g_sub [] rfl (c_X11_isWork_23 hX hO hΩ σ ((0 : Int32)))
def b_X11_isWork_0   (x1 : Int32)  (σ : MS) : Option (Int32) := (if x1 < 0 then (b_X11_isWork_22 σ) else (if (sI σ 23 4) ≤ x1 then (b_X11_isWork_22 σ) else (b_X11_isWork_23 ((1 : Int32)) σ)))
set_option maxHeartbeats 4000000 in
set_option maxRecDepth 20000 in
theorem c_X11_isWork_0 {X : CX} {Ω : OM} (hX : CF X Ω RX11 cX11_isWork 2 (some .boolean) rm_X11_isWork) (hO : OKO Ω) (hΩ : oSH Ω = SHX)   (σ : MS)  (x1 : Int32)    : GE X Ω 2 0 0 (emPI σ) 0 0 0 [(0, .ref 0), (1, .int x1)] [] σ (b_X11_isWork_0  x1 σ) := by
  unfold b_X11_isWork_0
  refine g_iload_n hX (dc_X11_isWork 0 rfl) rfl 1 rfl ?_
  refine g_if_lt (tgt := 22) hX (dc_X11_isWork 1 rfl) (by decide) (fun h5 => ?_) (fun h5 => ?_)
  · exact g_sub [] rfl (c_X11_isWork_22 hX hO hΩ σ)
  · refine g_iload_n hX (dc_X11_isWork 2 rfl) rfl 1 rfl ?_
    refine g_aload_n hX (dc_X11_isWork 3 rfl) rfl 0 rfl ?_
    refine g_getF (q := 22) hX (dc_X11_isWork 4 rfl) fl_X11_41 (by decide) rfl (stS hΩ 0 rfl) rfl ?_
    refine g_getF (q := 23) hX (dc_X11_isWork 5 rfl) fl_X11_51 (by decide) rfl (stS hΩ 22 rfl) rfl ?_
    refine g_getI hX (dc_X11_isWork 6 rfl) fl_X11_109 (by decide) rfl (stS hΩ 23 rfl) ?_
    refine g_icmp_ge (tgt := 22) hX (dc_X11_isWork 7 rfl) (by decide) (fun h6 => ?_) (fun h6 => ?_)
    · exact g_sub [] rfl (c_X11_isWork_22 hX hO hΩ σ)
    · refine g_iconst (w := (1 : Int32)) hX (dc_X11_isWork 8 rfl) (by decide) ?_
      refine g_goto (tgt := 23) hX (dc_X11_isWork 9 rfl) (by decide) ?_
      exact g_sub [] rfl (c_X11_isWork_23 hX hO hΩ σ ((1 : Int32)))
def f_X11_isWork (x1 : Int32) (σ : MS) : Option (Int32) := b_X11_isWork_0  x1 σ
theorem con_X11_isWork {Ω : OM} (hO : OKO Ω) (hΩ : oSH Ω = SHX) (x1 : Int32) (σ : MS)  : Con Ω yX11_isWork cX11_isWork 2 (some .boolean) rm_X11_isWork (emPI σ) [.ref 0, .int x1] σ (f_X11_isWork x1 σ) :=
  con_of hO (by decide +kernel) (Nat.le_of_ble_eq_true rfl) rfl (fun X hX _ => c_X11_isWork_0 hX hO hΩ   σ x1)
def it_X11_work : List (Nat × Instr × Nat × Nat) := [(0, .aload_n 0, 1, 1), (1, .iload_n 1, 1, 2), (2, .invokevirtual 162, 3, 5), (5, .ifCond .ne 6, 3, 8), (8, .bipush (-2), 2, 10), (10, .ireturn, 1, 11), (11, .iload_n 2, 1, 12), (12, .tableswitch 100 0 4 #[36, 49, 62, 74, 87], 36, 48), (48, .aload_n 0, 1, 49), (49, .getfield 41, 3, 52), (52, .getfield 51, 3, 55), (55, .getfield 165, 3, 58), (58, .iload_n 1, 1, 59), (59, .iaload, 1, 60), (60, .ireturn, 1, 61), (61, .aload_n 0, 1, 62), (62, .getfield 41, 3, 65), (65, .getfield 140, 3, 68), (68, .getfield 168, 3, 71), (71, .iload_n 1, 1, 72), (72, .iaload, 1, 73), (73, .ireturn, 1, 74), (74, .aload_n 0, 1, 75), (75, .getfield 41, 3, 78), (78, .getfield 140, 3, 81), (81, .iload_n 1, 1, 82), (82, .invokevirtual 171, 3, 85), (85, .ireturn, 1, 86), (86, .aload_n 0, 1, 87), (87, .getfield 41, 3, 90), (90, .getfield 140, 3, 93), (93, .getfield 174, 3, 96), (96, .iload_n 1, 1, 97), (97, .iaload, 1, 98), (98, .ireturn, 1, 99), (99, .aload_n 0, 1, 100), (100, .getfield 41, 3, 103), (103, .getfield 51, 3, 106), (106, .getfield 177, 3, 109), (109, .iload_n 1, 1, 110), (110, .iaload, 1, 111), (111, .ireturn, 1, 112), (112, .bipush (-2), 2, 114), (114, .ireturn, 1, 115)]
theorem id_X11_work : ∀ q ∈ it_X11_work, decode cX11_work q.1 = .ok (q.2.1, q.2.2.1) ∧ q.1 + q.2.2.1 = q.2.2.2 := by decide +kernel
theorem dc_X11_work {pc : Nat} {i : Instr} {n pc' : Nat} (j : Nat) (h : it_X11_work[j]? = some (pc, i, n, pc')) : Dc cX11_work pc i n pc' := dc_of id_X11_work j h
abbrev rm_X11_work : Room := { frames := 1, cells := 0, slots := 0, locals := 21 }
def b_X11_work_0   (x1 : Int32) (x2 : Int32)  (σ : MS) : Option (Int32) := (f_X11_isWork x1 σ).bind (fun r13 => (if r13 = 0 then some (-2 : Int32) else (if x2 = (0 : Int32) then chk (inb x1 6) (some (sI σ 29 (ix x1))) else (if x2 = (1 : Int32) then chk (inb x1 6) (some (sI σ 36 (ix x1))) else (if x2 = (2 : Int32) then (f_X8_sneakedBit 35 x1 σ).bind (fun r22 => some r22) else (if x2 = (3 : Int32) then chk (inb x1 6) (some (sI σ 37 (ix x1))) else (if x2 = (4 : Int32) then chk (inb x1 6) (some (sI σ 30 (ix x1))) else some (-2 : Int32))))))))
set_option maxHeartbeats 4000000 in
set_option maxRecDepth 20000 in
theorem c_X11_work_0 {X : CX} {Ω : OM} (hX : CF X Ω RX11 cX11_work 3 (some .int) rm_X11_work) (hO : OKO Ω) (hΩ : oSH Ω = SHX)   (σ : MS)  (x1 : Int32) (x2 : Int32)    : GE X Ω 3 0 0 (emPI σ) 0 0 0 [(0, .ref 0), (1, .int x1), (2, .int x2)] [] σ (b_X11_work_0  x1 x2 σ) := by
  unfold b_X11_work_0
  refine g_aload_n hX (dc_X11_work 0 rfl) rfl 0 rfl ?_
  refine g_iload_n hX (dc_X11_work 1 rfl) rfl 1 rfl ?_
  refine gV_PI (As := [.int x1]) (st := []) hX (dc_X11_work 2 rfl) ml_X11_162 (con_X11_isWork hO hΩ x1 σ) (stS hΩ 0 rfl) rfl rfl ⟨by decide, by decide⟩ ⟨rfl, rfl⟩ ⟨Nat.zero_le _, Nat.zero_le _⟩ (Nat.le_of_ble_eq_true rfl) (fun r13 _ => ?_)
  refine g_if_ne (tgt := 11) hX (dc_X11_work 3 rfl) (by decide) (fun h14 => ?_) (fun h14 => ?_)
  · refine g_bipush (w := (-2 : Int32)) hX (dc_X11_work 4 rfl) (by decide) ?_
    exact g_iret hX (dc_X11_work 5 rfl) rfl rfl (Nat.le_refl _) (Nat.le_refl _)
  · refine g_iload_n hX (dc_X11_work 6 rfl) rfl 2 rfl ?_
    refine g_ite (fun h15 => ?_) (fun h15 => ?_)
    · refine g_tsIn (off := 36) (tgt := 48) hX (dc_X11_work 7 rfl) (by rw [h15]; decide) (by rw [h15]; decide) (by rw [h15]; rfl) (by decide) ?_
      refine g_aload_n hX (dc_X11_work 8 rfl) rfl 0 rfl ?_
      refine g_getF (q := 22) hX (dc_X11_work 9 rfl) fl_X11_41 (by decide) rfl (stS hΩ 0 rfl) rfl ?_
      refine g_getF (q := 23) hX (dc_X11_work 10 rfl) fl_X11_51 (by decide) rfl (stS hΩ 22 rfl) rfl ?_
      refine g_getF (q := 29) hX (dc_X11_work 11 rfl) fl_X11_165 (by decide) rfl (stS hΩ 23 rfl) rfl ?_
      refine g_iload_n hX (dc_X11_work 12 rfl) rfl 1 rfl ?_
      refine g_chk (fun hc20 => ?_)
      refine g_iald hX (dc_X11_work 13 rfl) (stS hΩ 29 rfl) hc20 rfl ?_
      exact g_iret hX (dc_X11_work 14 rfl) rfl rfl (Nat.le_refl _) (Nat.le_refl _)
    · refine g_ite (fun h16 => ?_) (fun h16 => ?_)
      · refine g_tsIn (off := 49) (tgt := 61) hX (dc_X11_work 7 rfl) (by rw [h16]; decide) (by rw [h16]; decide) (by rw [h16]; rfl) (by decide) ?_
        refine g_aload_n hX (dc_X11_work 15 rfl) rfl 0 rfl ?_
        refine g_getF (q := 22) hX (dc_X11_work 16 rfl) fl_X11_41 (by decide) rfl (stS hΩ 0 rfl) rfl ?_
        refine g_getF (q := 35) hX (dc_X11_work 17 rfl) fl_X11_140 (by decide) rfl (stS hΩ 22 rfl) rfl ?_
        refine g_getF (q := 36) hX (dc_X11_work 18 rfl) fl_X11_168 (by decide) rfl (stS hΩ 35 rfl) rfl ?_
        refine g_iload_n hX (dc_X11_work 19 rfl) rfl 1 rfl ?_
        refine g_chk (fun hc21 => ?_)
        refine g_iald hX (dc_X11_work 20 rfl) (stS hΩ 36 rfl) hc21 rfl ?_
        exact g_iret hX (dc_X11_work 21 rfl) rfl rfl (Nat.le_refl _) (Nat.le_refl _)
      · refine g_ite (fun h17 => ?_) (fun h17 => ?_)
        · refine g_tsIn (off := 62) (tgt := 74) hX (dc_X11_work 7 rfl) (by rw [h17]; decide) (by rw [h17]; decide) (by rw [h17]; rfl) (by decide) ?_
          refine g_aload_n hX (dc_X11_work 22 rfl) rfl 0 rfl ?_
          refine g_getF (q := 22) hX (dc_X11_work 23 rfl) fl_X11_41 (by decide) rfl (stS hΩ 0 rfl) rfl ?_
          refine g_getF (q := 35) hX (dc_X11_work 24 rfl) fl_X11_140 (by decide) rfl (stS hΩ 22 rfl) rfl ?_
          refine g_iload_n hX (dc_X11_work 25 rfl) rfl 1 rfl ?_
          refine gV_PI (As := [.int x1]) (st := []) hX (dc_X11_work 26 rfl) ml_X11_171 (con_X8_sneakedBit hO hΩ 35 x1 σ (stR hΩ 35 (by decide))) (stS hΩ 35 rfl) rfl rfl ⟨by decide, by decide⟩ ⟨rfl, rfl⟩ ⟨Nat.zero_le _, Nat.zero_le _⟩ (Nat.le_of_ble_eq_true rfl) (fun r22 _ => ?_)
          exact g_iret hX (dc_X11_work 27 rfl) rfl rfl (Nat.le_refl _) (Nat.le_refl _)
        · refine g_ite (fun h18 => ?_) (fun h18 => ?_)
          · refine g_tsIn (off := 74) (tgt := 86) hX (dc_X11_work 7 rfl) (by rw [h18]; decide) (by rw [h18]; decide) (by rw [h18]; rfl) (by decide) ?_
            refine g_aload_n hX (dc_X11_work 28 rfl) rfl 0 rfl ?_
            refine g_getF (q := 22) hX (dc_X11_work 29 rfl) fl_X11_41 (by decide) rfl (stS hΩ 0 rfl) rfl ?_
            refine g_getF (q := 35) hX (dc_X11_work 30 rfl) fl_X11_140 (by decide) rfl (stS hΩ 22 rfl) rfl ?_
            refine g_getF (q := 37) hX (dc_X11_work 31 rfl) fl_X11_174 (by decide) rfl (stS hΩ 35 rfl) rfl ?_
            refine g_iload_n hX (dc_X11_work 32 rfl) rfl 1 rfl ?_
            refine g_chk (fun hc23 => ?_)
            refine g_iald hX (dc_X11_work 33 rfl) (stS hΩ 37 rfl) hc23 rfl ?_
            exact g_iret hX (dc_X11_work 34 rfl) rfl rfl (Nat.le_refl _) (Nat.le_refl _)
          · refine g_ite (fun h19 => ?_) (fun h19 => ?_)
            · refine g_tsIn (off := 87) (tgt := 99) hX (dc_X11_work 7 rfl) (by rw [h19]; decide) (by rw [h19]; decide) (by rw [h19]; rfl) (by decide) ?_
              refine g_aload_n hX (dc_X11_work 35 rfl) rfl 0 rfl ?_
              refine g_getF (q := 22) hX (dc_X11_work 36 rfl) fl_X11_41 (by decide) rfl (stS hΩ 0 rfl) rfl ?_
              refine g_getF (q := 23) hX (dc_X11_work 37 rfl) fl_X11_51 (by decide) rfl (stS hΩ 22 rfl) rfl ?_
              refine g_getF (q := 30) hX (dc_X11_work 38 rfl) fl_X11_177 (by decide) rfl (stS hΩ 23 rfl) rfl ?_
              refine g_iload_n hX (dc_X11_work 39 rfl) rfl 1 rfl ?_
              refine g_chk (fun hc24 => ?_)
              refine g_iald hX (dc_X11_work 40 rfl) (stS hΩ 30 rfl) hc24 rfl ?_
              exact g_iret hX (dc_X11_work 41 rfl) rfl rfl (Nat.le_refl _) (Nat.le_refl _)
            · refine g_tsOut (tgt := 112) hX (dc_X11_work 7 rfl) (by have e0 := i32ne h15 (k := 0) (by decide); have e1 := i32ne h16 (k := 1) (by decide); have e2 := i32ne h17 (k := 2) (by decide); have e3 := i32ne h18 (k := 3) (by decide); have e4 := i32ne h19 (k := 4) (by decide); omega) (by decide) ?_
              refine g_bipush (w := (-2 : Int32)) hX (dc_X11_work 42 rfl) (by decide) ?_
              exact g_iret hX (dc_X11_work 43 rfl) rfl rfl (Nat.le_refl _) (Nat.le_refl _)
def f_X11_work (x1 : Int32) (x2 : Int32) (σ : MS) : Option (Int32) := b_X11_work_0  x1 x2 σ
theorem con_X11_work {Ω : OM} (hO : OKO Ω) (hΩ : oSH Ω = SHX) (x1 : Int32) (x2 : Int32) (σ : MS)  : Con Ω yX11_work cX11_work 3 (some .int) rm_X11_work (emPI σ) [.ref 0, .int x1, .int x2] σ (f_X11_work x1 x2 σ) :=
  con_of hO (by decide +kernel) (Nat.le_of_ble_eq_true rfl) rfl (fun X hX _ => c_X11_work_0 hX hO hΩ   σ x1 x2)
def it_X11_count : List (Nat × Instr × Nat × Nat) := [(0, .aload_n 0, 1, 1), (1, .getfield 41, 3, 4), (4, .getfield 51, 3, 7), (7, .astore_n 2, 1, 8), (8, .iload_n 1, 1, 9), (9, .tableswitch 199 0 14 #[75, 80, 91, 96, 101, 106, 111, 119, 130, 141, 152, 167, 175, 183, 191], 75, 84), (84, .aload_n 2, 1, 85), (85, .getfield 180, 3, 88), (88, .ireturn, 1, 89), (89, .aload_n 0, 1, 90), (90, .getfield 41, 3, 93), (93, .getfield 140, 3, 96), (96, .getfield 183, 3, 99), (99, .ireturn, 1, 100), (100, .aload_n 2, 1, 101), (101, .getfield 186, 3, 104), (104, .ireturn, 1, 105), (105, .aload_n 2, 1, 106), (106, .getfield 189, 3, 109), (109, .ireturn, 1, 110), (110, .aload_n 2, 1, 111), (111, .getfield 109, 3, 114), (114, .ireturn, 1, 115), (115, .aload_n 0, 1, 116), (116, .getfield 114, 3, 119), (119, .ireturn, 1, 120), (120, .aload_n 0, 1, 121), (121, .getfield 41, 3, 124), (124, .getfield 125, 3, 127), (127, .ireturn, 1, 128), (128, .aload_n 0, 1, 129), (129, .getfield 41, 3, 132), (132, .getfield 140, 3, 135), (135, .getfield 192, 3, 138), (138, .ireturn, 1, 139), (139, .aload_n 0, 1, 140), (140, .getfield 41, 3, 143), (143, .getfield 140, 3, 146), (146, .invokevirtual 195, 3, 149), (149, .ireturn, 1, 150), (150, .aload_n 0, 1, 151), (151, .getfield 41, 3, 154), (154, .getfield 140, 3, 157), (157, .getfield 198, 3, 160), (160, .ireturn, 1, 161), (161, .aload_n 2, 1, 162), (162, .aload_n 0, 1, 163), (163, .getfield 41, 3, 166), (166, .getfield 140, 3, 169), (169, .getfield 192, 3, 172), (172, .invokevirtual 201, 3, 175), (175, .ireturn, 1, 176), (176, .aload_n 0, 1, 177), (177, .getfield 41, 3, 180), (180, .getfield 204, 3, 183), (183, .ireturn, 1, 184), (184, .aload_n 0, 1, 185), (185, .getfield 41, 3, 188), (188, .getfield 207, 3, 191), (191, .ireturn, 1, 192), (192, .aload_n 0, 1, 193), (193, .getfield 41, 3, 196), (196, .getfield 210, 3, 199), (199, .ireturn, 1, 200), (200, .aload_n 0, 1, 201), (201, .getfield 10, 3, 204), (204, .getfield 95, 3, 207), (207, .ireturn, 1, 208), (208, .iconst (-1), 1, 209), (209, .ireturn, 1, 210)]
theorem id_X11_count : ∀ q ∈ it_X11_count, decode cX11_count q.1 = .ok (q.2.1, q.2.2.1) ∧ q.1 + q.2.2.1 = q.2.2.2 := by decide +kernel
theorem dc_X11_count {pc : Nat} {i : Instr} {n pc' : Nat} (j : Nat) (h : it_X11_count[j]? = some (pc, i, n, pc')) : Dc cX11_count pc i n pc' := dc_of id_X11_count j h
abbrev rm_X11_count : Room := { frames := 3, cells := 0, slots := 0, locals := 67 }
def b_X11_count_0   (x1 : Int32)  (σ : MS) : Option (Int32) := (if x1 = (0 : Int32) then some (sI σ 23 1) else (if x1 = (1 : Int32) then some (sI σ 35 4) else (if x1 = (2 : Int32) then some (sI σ 23 2) else (if x1 = (3 : Int32) then some (sI σ 23 3) else (if x1 = (4 : Int32) then some (sI σ 23 4) else (if x1 = (5 : Int32) then some (sI σ 0 11) else (if x1 = (6 : Int32) then some (sI σ 22 9) else (if x1 = (7 : Int32) then some (sI σ 35 5) else (if x1 = (8 : Int32) then (f_X8_worksThatGo 35 σ).bind (fun r33 => some r33) else (if x1 = (9 : Int32) then some (sI σ 35 3) else (if x1 = (10 : Int32) then (f_X3_awakeAt (sI σ 35 5) σ).bind (fun r34 => some r34) else (if x1 = (11 : Int32) then some (sI σ 22 8) else (if x1 = (12 : Int32) then some (sI σ 22 4) else (if x1 = (13 : Int32) then some (sI σ 22 10) else (if x1 = (14 : Int32) then some (sI σ 1 1) else some (-1 : Int32))))))))))))))))
set_option maxHeartbeats 4000000 in
set_option maxRecDepth 20000 in
theorem c_X11_count_0 {X : CX} {Ω : OM} (hX : CF X Ω RX11 cX11_count 3 (some .int) rm_X11_count) (hO : OKO Ω) (hΩ : oSH Ω = SHX)   (σ : MS)  (x1 : Int32)    : GE X Ω 3 0 0 (emPI σ) 0 0 0 [(0, .ref 0), (1, .int x1)] [] σ (b_X11_count_0  x1 σ) := by
  unfold b_X11_count_0
  refine g_aload_n hX (dc_X11_count 0 rfl) rfl 0 rfl ?_
  refine g_getF (q := 22) hX (dc_X11_count 1 rfl) fl_X11_41 (by decide) rfl (stS hΩ 0 rfl) rfl ?_
  refine g_getF (q := 23) hX (dc_X11_count 2 rfl) fl_X11_51 (by decide) rfl (stS hΩ 22 rfl) rfl ?_
  refine g_astore_n (L' := [(2, .ref 23), (0, .ref 0), (1, .int x1)]) hX (dc_X11_count 3 rfl) rfl (by decide) rfl ?_
  refine g_iload_n hX (dc_X11_count 4 rfl) rfl 2 rfl ?_
  refine g_ite (fun h18 => ?_) (fun h18 => ?_)
  · refine g_tsIn (off := 75) (tgt := 84) hX (dc_X11_count 5 rfl) (by rw [h18]; decide) (by rw [h18]; decide) (by rw [h18]; rfl) (by decide) ?_
    refine g_aload_n hX (dc_X11_count 6 rfl) rfl 0 rfl ?_
    refine g_getI hX (dc_X11_count 7 rfl) fl_X11_180 (by decide) rfl (stS hΩ 23 rfl) ?_
    exact g_iret hX (dc_X11_count 8 rfl) rfl rfl (Nat.le_refl _) (Nat.le_refl _)
  · refine g_ite (fun h19 => ?_) (fun h19 => ?_)
    · refine g_tsIn (off := 80) (tgt := 89) hX (dc_X11_count 5 rfl) (by rw [h19]; decide) (by rw [h19]; decide) (by rw [h19]; rfl) (by decide) ?_
      refine g_aload_n hX (dc_X11_count 9 rfl) rfl 1 rfl ?_
      refine g_getF (q := 22) hX (dc_X11_count 10 rfl) fl_X11_41 (by decide) rfl (stS hΩ 0 rfl) rfl ?_
      refine g_getF (q := 35) hX (dc_X11_count 11 rfl) fl_X11_140 (by decide) rfl (stS hΩ 22 rfl) rfl ?_
      refine g_getI hX (dc_X11_count 12 rfl) fl_X11_183 (by decide) rfl (stS hΩ 35 rfl) ?_
      exact g_iret hX (dc_X11_count 13 rfl) rfl rfl (Nat.le_refl _) (Nat.le_refl _)
    · refine g_ite (fun h20 => ?_) (fun h20 => ?_)
      · refine g_tsIn (off := 91) (tgt := 100) hX (dc_X11_count 5 rfl) (by rw [h20]; decide) (by rw [h20]; decide) (by rw [h20]; rfl) (by decide) ?_
        refine g_aload_n hX (dc_X11_count 14 rfl) rfl 0 rfl ?_
        refine g_getI hX (dc_X11_count 15 rfl) fl_X11_186 (by decide) rfl (stS hΩ 23 rfl) ?_
        exact g_iret hX (dc_X11_count 16 rfl) rfl rfl (Nat.le_refl _) (Nat.le_refl _)
      · refine g_ite (fun h21 => ?_) (fun h21 => ?_)
        · refine g_tsIn (off := 96) (tgt := 105) hX (dc_X11_count 5 rfl) (by rw [h21]; decide) (by rw [h21]; decide) (by rw [h21]; rfl) (by decide) ?_
          refine g_aload_n hX (dc_X11_count 17 rfl) rfl 0 rfl ?_
          refine g_getI hX (dc_X11_count 18 rfl) fl_X11_189 (by decide) rfl (stS hΩ 23 rfl) ?_
          exact g_iret hX (dc_X11_count 19 rfl) rfl rfl (Nat.le_refl _) (Nat.le_refl _)
        · refine g_ite (fun h22 => ?_) (fun h22 => ?_)
          · refine g_tsIn (off := 101) (tgt := 110) hX (dc_X11_count 5 rfl) (by rw [h22]; decide) (by rw [h22]; decide) (by rw [h22]; rfl) (by decide) ?_
            refine g_aload_n hX (dc_X11_count 20 rfl) rfl 0 rfl ?_
            refine g_getI hX (dc_X11_count 21 rfl) fl_X11_109 (by decide) rfl (stS hΩ 23 rfl) ?_
            exact g_iret hX (dc_X11_count 22 rfl) rfl rfl (Nat.le_refl _) (Nat.le_refl _)
          · refine g_ite (fun h23 => ?_) (fun h23 => ?_)
            · refine g_tsIn (off := 106) (tgt := 115) hX (dc_X11_count 5 rfl) (by rw [h23]; decide) (by rw [h23]; decide) (by rw [h23]; rfl) (by decide) ?_
              refine g_aload_n hX (dc_X11_count 23 rfl) rfl 1 rfl ?_
              refine g_getI hX (dc_X11_count 24 rfl) fl_X11_114 (by decide) rfl (stS hΩ 0 rfl) ?_
              exact g_iret hX (dc_X11_count 25 rfl) rfl rfl (Nat.le_refl _) (Nat.le_refl _)
            · refine g_ite (fun h24 => ?_) (fun h24 => ?_)
              · refine g_tsIn (off := 111) (tgt := 120) hX (dc_X11_count 5 rfl) (by rw [h24]; decide) (by rw [h24]; decide) (by rw [h24]; rfl) (by decide) ?_
                refine g_aload_n hX (dc_X11_count 26 rfl) rfl 1 rfl ?_
                refine g_getF (q := 22) hX (dc_X11_count 27 rfl) fl_X11_41 (by decide) rfl (stS hΩ 0 rfl) rfl ?_
                refine g_getI hX (dc_X11_count 28 rfl) fl_X11_125 (by decide) rfl (stS hΩ 22 rfl) ?_
                exact g_iret hX (dc_X11_count 29 rfl) rfl rfl (Nat.le_refl _) (Nat.le_refl _)
              · refine g_ite (fun h25 => ?_) (fun h25 => ?_)
                · refine g_tsIn (off := 119) (tgt := 128) hX (dc_X11_count 5 rfl) (by rw [h25]; decide) (by rw [h25]; decide) (by rw [h25]; rfl) (by decide) ?_
                  refine g_aload_n hX (dc_X11_count 30 rfl) rfl 1 rfl ?_
                  refine g_getF (q := 22) hX (dc_X11_count 31 rfl) fl_X11_41 (by decide) rfl (stS hΩ 0 rfl) rfl ?_
                  refine g_getF (q := 35) hX (dc_X11_count 32 rfl) fl_X11_140 (by decide) rfl (stS hΩ 22 rfl) rfl ?_
                  refine g_getI hX (dc_X11_count 33 rfl) fl_X11_192 (by decide) rfl (stS hΩ 35 rfl) ?_
                  exact g_iret hX (dc_X11_count 34 rfl) rfl rfl (Nat.le_refl _) (Nat.le_refl _)
                · refine g_ite (fun h26 => ?_) (fun h26 => ?_)
                  · refine g_tsIn (off := 130) (tgt := 139) hX (dc_X11_count 5 rfl) (by rw [h26]; decide) (by rw [h26]; decide) (by rw [h26]; rfl) (by decide) ?_
                    refine g_aload_n hX (dc_X11_count 35 rfl) rfl 1 rfl ?_
                    refine g_getF (q := 22) hX (dc_X11_count 36 rfl) fl_X11_41 (by decide) rfl (stS hΩ 0 rfl) rfl ?_
                    refine g_getF (q := 35) hX (dc_X11_count 37 rfl) fl_X11_140 (by decide) rfl (stS hΩ 22 rfl) rfl ?_
                    refine gV_PI (As := []) (st := []) hX (dc_X11_count 38 rfl) ml_X11_195 (con_X8_worksThatGo hO hΩ 35 σ (stR hΩ 35 (by decide))) (stS hΩ 35 rfl) rfl rfl ⟨by decide, by decide⟩ ⟨rfl, rfl⟩ ⟨Nat.zero_le _, Nat.zero_le _⟩ (Nat.le_of_ble_eq_true rfl) (fun r33 _ => ?_)
                    exact g_iret hX (dc_X11_count 39 rfl) rfl rfl (Nat.le_refl _) (Nat.le_refl _)
                  · refine g_ite (fun h27 => ?_) (fun h27 => ?_)
                    · refine g_tsIn (off := 141) (tgt := 150) hX (dc_X11_count 5 rfl) (by rw [h27]; decide) (by rw [h27]; decide) (by rw [h27]; rfl) (by decide) ?_
                      refine g_aload_n hX (dc_X11_count 40 rfl) rfl 1 rfl ?_
                      refine g_getF (q := 22) hX (dc_X11_count 41 rfl) fl_X11_41 (by decide) rfl (stS hΩ 0 rfl) rfl ?_
                      refine g_getF (q := 35) hX (dc_X11_count 42 rfl) fl_X11_140 (by decide) rfl (stS hΩ 22 rfl) rfl ?_
                      refine g_getI hX (dc_X11_count 43 rfl) fl_X11_198 (by decide) rfl (stS hΩ 35 rfl) ?_
                      exact g_iret hX (dc_X11_count 44 rfl) rfl rfl (Nat.le_refl _) (Nat.le_refl _)
                    · refine g_ite (fun h28 => ?_) (fun h28 => ?_)
                      · refine g_tsIn (off := 152) (tgt := 161) hX (dc_X11_count 5 rfl) (by rw [h28]; decide) (by rw [h28]; decide) (by rw [h28]; rfl) (by decide) ?_
                        refine g_aload_n hX (dc_X11_count 45 rfl) rfl 0 rfl ?_
                        refine g_aload_n hX (dc_X11_count 46 rfl) rfl 1 rfl ?_
                        refine g_getF (q := 22) hX (dc_X11_count 47 rfl) fl_X11_41 (by decide) rfl (stS hΩ 0 rfl) rfl ?_
                        refine g_getF (q := 35) hX (dc_X11_count 48 rfl) fl_X11_140 (by decide) rfl (stS hΩ 22 rfl) rfl ?_
                        refine g_getI hX (dc_X11_count 49 rfl) fl_X11_192 (by decide) rfl (stS hΩ 35 rfl) ?_
                        refine gV_PI (As := [.int (sI σ 35 5)]) (st := []) hX (dc_X11_count 50 rfl) ml_X11_201 (con_X3_awakeAt hO hΩ (sI σ 35 5) σ) (stS hΩ 23 rfl) rfl rfl ⟨by decide, by decide⟩ ⟨rfl, rfl⟩ ⟨Nat.zero_le _, Nat.zero_le _⟩ (Nat.le_of_ble_eq_true rfl) (fun r34 _ => ?_)
                        exact g_iret hX (dc_X11_count 51 rfl) rfl rfl (Nat.le_refl _) (Nat.le_refl _)
                      · refine g_ite (fun h29 => ?_) (fun h29 => ?_)
                        · refine g_tsIn (off := 167) (tgt := 176) hX (dc_X11_count 5 rfl) (by rw [h29]; decide) (by rw [h29]; decide) (by rw [h29]; rfl) (by decide) ?_
                          refine g_aload_n hX (dc_X11_count 52 rfl) rfl 1 rfl ?_
                          refine g_getF (q := 22) hX (dc_X11_count 53 rfl) fl_X11_41 (by decide) rfl (stS hΩ 0 rfl) rfl ?_
                          refine g_getI hX (dc_X11_count 54 rfl) fl_X11_204 (by decide) rfl (stS hΩ 22 rfl) ?_
                          exact g_iret hX (dc_X11_count 55 rfl) rfl rfl (Nat.le_refl _) (Nat.le_refl _)
                        · refine g_ite (fun h30 => ?_) (fun h30 => ?_)
                          · refine g_tsIn (off := 175) (tgt := 184) hX (dc_X11_count 5 rfl) (by rw [h30]; decide) (by rw [h30]; decide) (by rw [h30]; rfl) (by decide) ?_
                            refine g_aload_n hX (dc_X11_count 56 rfl) rfl 1 rfl ?_
                            refine g_getF (q := 22) hX (dc_X11_count 57 rfl) fl_X11_41 (by decide) rfl (stS hΩ 0 rfl) rfl ?_
                            refine g_getI hX (dc_X11_count 58 rfl) fl_X11_207 (by decide) rfl (stS hΩ 22 rfl) ?_
                            exact g_iret hX (dc_X11_count 59 rfl) rfl rfl (Nat.le_refl _) (Nat.le_refl _)
                          · refine g_ite (fun h31 => ?_) (fun h31 => ?_)
                            · refine g_tsIn (off := 183) (tgt := 192) hX (dc_X11_count 5 rfl) (by rw [h31]; decide) (by rw [h31]; decide) (by rw [h31]; rfl) (by decide) ?_
                              refine g_aload_n hX (dc_X11_count 60 rfl) rfl 1 rfl ?_
                              refine g_getF (q := 22) hX (dc_X11_count 61 rfl) fl_X11_41 (by decide) rfl (stS hΩ 0 rfl) rfl ?_
                              refine g_getI hX (dc_X11_count 62 rfl) fl_X11_210 (by decide) rfl (stS hΩ 22 rfl) ?_
                              exact g_iret hX (dc_X11_count 63 rfl) rfl rfl (Nat.le_refl _) (Nat.le_refl _)
                            · refine g_ite (fun h32 => ?_) (fun h32 => ?_)
                              · refine g_tsIn (off := 191) (tgt := 200) hX (dc_X11_count 5 rfl) (by rw [h32]; decide) (by rw [h32]; decide) (by rw [h32]; rfl) (by decide) ?_
                                refine g_aload_n hX (dc_X11_count 64 rfl) rfl 1 rfl ?_
                                refine g_getF (q := 1) hX (dc_X11_count 65 rfl) fl_X11_10 (by decide) rfl (stS hΩ 0 rfl) rfl ?_
                                refine g_getI hX (dc_X11_count 66 rfl) fl_X11_95 (by decide) rfl (stS hΩ 1 rfl) ?_
                                exact g_iret hX (dc_X11_count 67 rfl) rfl rfl (Nat.le_refl _) (Nat.le_refl _)
                              · refine g_tsOut (tgt := 208) hX (dc_X11_count 5 rfl) (by have e0 := i32ne h18 (k := 0) (by decide); have e1 := i32ne h19 (k := 1) (by decide); have e2 := i32ne h20 (k := 2) (by decide); have e3 := i32ne h21 (k := 3) (by decide); have e4 := i32ne h22 (k := 4) (by decide); have e5 := i32ne h23 (k := 5) (by decide); have e6 := i32ne h24 (k := 6) (by decide); have e7 := i32ne h25 (k := 7) (by decide); have e8 := i32ne h26 (k := 8) (by decide); have e9 := i32ne h27 (k := 9) (by decide); have e10 := i32ne h28 (k := 10) (by decide); have e11 := i32ne h29 (k := 11) (by decide); have e12 := i32ne h30 (k := 12) (by decide); have e13 := i32ne h31 (k := 13) (by decide); have e14 := i32ne h32 (k := 14) (by decide); omega) (by decide) ?_
                                refine g_iconst (w := (-1 : Int32)) hX (dc_X11_count 68 rfl) (by decide) ?_
                                exact g_iret hX (dc_X11_count 69 rfl) rfl rfl (Nat.le_refl _) (Nat.le_refl _)
def f_X11_count (x1 : Int32) (σ : MS) : Option (Int32) := b_X11_count_0  x1 σ
theorem con_X11_count {Ω : OM} (hO : OKO Ω) (hΩ : oSH Ω = SHX) (x1 : Int32) (σ : MS)  : Con Ω yX11_count cX11_count 3 (some .int) rm_X11_count (emPI σ) [.ref 0, .int x1] σ (f_X11_count x1 σ) :=
  con_of hO (by decide +kernel) (Nat.le_of_ble_eq_true rfl) rfl (fun X hX _ => c_X11_count_0 hX hO hΩ   σ x1)
def it_X11_goes : List (Nat × Instr × Nat × Nat) := [(0, .aload_n 0, 1, 1), (1, .iload_n 1, 1, 2), (2, .invokevirtual 162, 3, 5), (5, .ifCond .eq 23, 3, 8), (8, .aload_n 0, 1, 9), (9, .getfield 41, 3, 12), (12, .getfield 140, 3, 15), (15, .getfield 168, 3, 18), (18, .iload_n 1, 1, 19), (19, .iaload, 1, 20), (20, .iconst (-1), 1, 21), (21, .if_icmp .eq 7, 3, 24), (24, .iconst 1, 1, 25), (25, .goto 4, 3, 28), (28, .iconst 0, 1, 29), (29, .ireturn, 1, 30)]
theorem id_X11_goes : ∀ q ∈ it_X11_goes, decode cX11_goes q.1 = .ok (q.2.1, q.2.2.1) ∧ q.1 + q.2.2.1 = q.2.2.2 := by decide +kernel
theorem dc_X11_goes {pc : Nat} {i : Instr} {n pc' : Nat} (j : Nat) (h : it_X11_goes[j]? = some (pc, i, n, pc')) : Dc cX11_goes pc i n pc' := dc_of id_X11_goes j h
abbrev rm_X11_goes : Room := { frames := 1, cells := 0, slots := 0, locals := 21 }
def b_X11_goes_29    (s0 : Int32) (σ : MS) : Option (Int32) := chk (s0 = 0 ∨ s0 = 1) (some s0)
set_option maxHeartbeats 4000000 in
set_option maxRecDepth 20000 in
theorem c_X11_goes_29 {X : CX} {Ω : OM} (hX : CF X Ω RX11 cX11_goes 2 (some .boolean) rm_X11_goes) (hO : OKO Ω) (hΩ : oSH Ω = SHX)   (σ : MS)   (s0 : Int32)   : GE X Ω 2 0 0 (emPI σ) 0 0 29 [] [.int s0] σ (b_X11_goes_29  s0 σ) := by
  unfold b_X11_goes_29
  refine g_chk (fun hc6 => ?_)
  exact g_iret hX (dc_X11_goes 15 rfl) (nz_bool hc6).1 rfl (Nat.le_refl _) (Nat.le_refl _)
def b_X11_goes_28     (σ : MS) : Option (Int32) := (b_X11_goes_29 ((0 : Int32)) σ)
set_option maxHeartbeats 4000000 in
set_option maxRecDepth 20000 in
theorem c_X11_goes_28 {X : CX} {Ω : OM} (hX : CF X Ω RX11 cX11_goes 2 (some .boolean) rm_X11_goes) (hO : OKO Ω) (hΩ : oSH Ω = SHX)   (σ : MS)      : GE X Ω 2 0 0 (emPI σ) 0 0 28 [] [] σ (b_X11_goes_28  σ) := by
  unfold b_X11_goes_28
  refine g_iconst (w := (0 : Int32)) hX (dc_X11_goes 14 rfl) (by decide) ?_
  exact g_sub [] rfl (c_X11_goes_29 hX hO hΩ σ ((0 : Int32)))
def b_X11_goes_0   (x1 : Int32)  (σ : MS) : Option (Int32) := (f_X11_isWork x1 σ).bind (fun r7 => (if r7 = 0 then (b_X11_goes_28 σ) else chk (inb x1 6) ((if (sI σ 36 (ix x1)) = (-1 : Int32) then (b_X11_goes_28 σ) else (b_X11_goes_29 ((1 : Int32)) σ)))))
set_option maxHeartbeats 4000000 in
set_option maxRecDepth 20000 in
theorem c_X11_goes_0 {X : CX} {Ω : OM} (hX : CF X Ω RX11 cX11_goes 2 (some .boolean) rm_X11_goes) (hO : OKO Ω) (hΩ : oSH Ω = SHX)   (σ : MS)  (x1 : Int32)    : GE X Ω 2 0 0 (emPI σ) 0 0 0 [(0, .ref 0), (1, .int x1)] [] σ (b_X11_goes_0  x1 σ) := by
  unfold b_X11_goes_0
  refine g_aload_n hX (dc_X11_goes 0 rfl) rfl 0 rfl ?_
  refine g_iload_n hX (dc_X11_goes 1 rfl) rfl 1 rfl ?_
  refine gV_PI (As := [.int x1]) (st := []) hX (dc_X11_goes 2 rfl) ml_X11_162 (con_X11_isWork hO hΩ x1 σ) (stS hΩ 0 rfl) rfl rfl ⟨by decide, by decide⟩ ⟨rfl, rfl⟩ ⟨Nat.zero_le _, Nat.zero_le _⟩ (Nat.le_of_ble_eq_true rfl) (fun r7 _ => ?_)
  refine g_if_eq (tgt := 28) hX (dc_X11_goes 3 rfl) (by decide) (fun h8 => ?_) (fun h8 => ?_)
  · exact g_sub [] rfl (c_X11_goes_28 hX hO hΩ σ)
  · refine g_aload_n hX (dc_X11_goes 4 rfl) rfl 0 rfl ?_
    refine g_getF (q := 22) hX (dc_X11_goes 5 rfl) fl_X11_41 (by decide) rfl (stS hΩ 0 rfl) rfl ?_
    refine g_getF (q := 35) hX (dc_X11_goes 6 rfl) fl_X11_140 (by decide) rfl (stS hΩ 22 rfl) rfl ?_
    refine g_getF (q := 36) hX (dc_X11_goes 7 rfl) fl_X11_168 (by decide) rfl (stS hΩ 35 rfl) rfl ?_
    refine g_iload_n hX (dc_X11_goes 8 rfl) rfl 1 rfl ?_
    refine g_chk (fun hc9 => ?_)
    refine g_iald hX (dc_X11_goes 9 rfl) (stS hΩ 36 rfl) hc9 rfl ?_
    refine g_iconst (w := (-1 : Int32)) hX (dc_X11_goes 10 rfl) (by decide) ?_
    refine g_icmp_eq (tgt := 28) hX (dc_X11_goes 11 rfl) (by decide) (fun h10 => ?_) (fun h10 => ?_)
    · exact g_sub [] rfl (c_X11_goes_28 hX hO hΩ σ)
    · refine g_iconst (w := (1 : Int32)) hX (dc_X11_goes 12 rfl) (by decide) ?_
      refine g_goto (tgt := 29) hX (dc_X11_goes 13 rfl) (by decide) ?_
      exact g_sub [] rfl (c_X11_goes_29 hX hO hΩ σ ((1 : Int32)))
def f_X11_goes (x1 : Int32) (σ : MS) : Option (Int32) := b_X11_goes_0  x1 σ
theorem con_X11_goes {Ω : OM} (hO : OKO Ω) (hΩ : oSH Ω = SHX) (x1 : Int32) (σ : MS)  : Con Ω yX11_goes cX11_goes 2 (some .boolean) rm_X11_goes (emPI σ) [.ref 0, .int x1] σ (f_X11_goes x1 σ) :=
  con_of hO (by decide +kernel) (Nat.le_of_ble_eq_true rfl) rfl (fun X hX _ => c_X11_goes_0 hX hO hΩ   σ x1)
def it_X11_hasHandFree : List (Nat × Instr × Nat × Nat) := [(0, .aload_n 0, 1, 1), (1, .iload_n 1, 1, 2), (2, .invokevirtual 137, 3, 5), (5, .ifCond .eq 33, 3, 8), (8, .aload_n 0, 1, 9), (9, .getfield 41, 3, 12), (12, .getfield 140, 3, 15), (15, .iload_n 1, 1, 16), (16, .invokevirtual 217, 3, 19), (19, .aload_n 0, 1, 20), (20, .getfield 41, 3, 23), (23, .getfield 51, 3, 26), (26, .getfield 152, 3, 29), (29, .iload_n 1, 1, 30), (30, .iaload, 1, 31), (31, .if_icmp .ge 7, 3, 34), (34, .iconst 1, 1, 35), (35, .goto 4, 3, 38), (38, .iconst 0, 1, 39), (39, .ireturn, 1, 40)]
theorem id_X11_hasHandFree : ∀ q ∈ it_X11_hasHandFree, decode cX11_hasHandFree q.1 = .ok (q.2.1, q.2.2.1) ∧ q.1 + q.2.2.1 = q.2.2.2 := by decide +kernel
theorem dc_X11_hasHandFree {pc : Nat} {i : Instr} {n pc' : Nat} (j : Nat) (h : it_X11_hasHandFree[j]? = some (pc, i, n, pc')) : Dc cX11_hasHandFree pc i n pc' := dc_of id_X11_hasHandFree j h
abbrev rm_X11_hasHandFree : Room := { frames := 1, cells := 0, slots := 0, locals := 23 }
def b_X11_hasHandFree_39    (s0 : Int32) (σ : MS) : Option (Int32) := chk (s0 = 0 ∨ s0 = 1) (some s0)
set_option maxHeartbeats 4000000 in
set_option maxRecDepth 20000 in
theorem c_X11_hasHandFree_39 {X : CX} {Ω : OM} (hX : CF X Ω RX11 cX11_hasHandFree 2 (some .boolean) rm_X11_hasHandFree) (hO : OKO Ω) (hΩ : oSH Ω = SHX)   (σ : MS)   (s0 : Int32)   : GE X Ω 2 0 0 (emPI σ) 0 0 39 [] [.int s0] σ (b_X11_hasHandFree_39  s0 σ) := by
  unfold b_X11_hasHandFree_39
  refine g_chk (fun hc7 => ?_)
  exact g_iret hX (dc_X11_hasHandFree 19 rfl) (nz_bool hc7).1 rfl (Nat.le_refl _) (Nat.le_refl _)
def b_X11_hasHandFree_38     (σ : MS) : Option (Int32) := (b_X11_hasHandFree_39 ((0 : Int32)) σ)
set_option maxHeartbeats 4000000 in
set_option maxRecDepth 20000 in
theorem c_X11_hasHandFree_38 {X : CX} {Ω : OM} (hX : CF X Ω RX11 cX11_hasHandFree 2 (some .boolean) rm_X11_hasHandFree) (hO : OKO Ω) (hΩ : oSH Ω = SHX)   (σ : MS)      : GE X Ω 2 0 0 (emPI σ) 0 0 38 [] [] σ (b_X11_hasHandFree_38  σ) := by
  unfold b_X11_hasHandFree_38
  refine g_iconst (w := (0 : Int32)) hX (dc_X11_hasHandFree 18 rfl) (by decide) ?_
  exact g_sub [] rfl (c_X11_hasHandFree_39 hX hO hΩ σ ((0 : Int32)))
def b_X11_hasHandFree_0   (x1 : Int32)  (σ : MS) : Option (Int32) := (f_X11_isPerson x1 σ).bind (fun r8 => (if r8 = 0 then (b_X11_hasHandFree_38 σ) else (f_X8_load 35 x1 σ).bind (fun r10 => chk (inb x1 4) ((if (sI σ 28 (ix x1)) ≤ r10 then (b_X11_hasHandFree_38 σ) else (b_X11_hasHandFree_39 ((1 : Int32)) σ))))))
set_option maxHeartbeats 4000000 in
set_option maxRecDepth 20000 in
theorem c_X11_hasHandFree_0 {X : CX} {Ω : OM} (hX : CF X Ω RX11 cX11_hasHandFree 2 (some .boolean) rm_X11_hasHandFree) (hO : OKO Ω) (hΩ : oSH Ω = SHX)   (σ : MS)  (x1 : Int32)    : GE X Ω 2 0 0 (emPI σ) 0 0 0 [(0, .ref 0), (1, .int x1)] [] σ (b_X11_hasHandFree_0  x1 σ) := by
  unfold b_X11_hasHandFree_0
  refine g_aload_n hX (dc_X11_hasHandFree 0 rfl) rfl 0 rfl ?_
  refine g_iload_n hX (dc_X11_hasHandFree 1 rfl) rfl 1 rfl ?_
  refine gV_PI (As := [.int x1]) (st := []) hX (dc_X11_hasHandFree 2 rfl) ml_X11_137 (con_X11_isPerson hO hΩ x1 σ) (stS hΩ 0 rfl) rfl rfl ⟨by decide, by decide⟩ ⟨rfl, rfl⟩ ⟨Nat.zero_le _, Nat.zero_le _⟩ (Nat.le_of_ble_eq_true rfl) (fun r8 _ => ?_)
  refine g_if_eq (tgt := 38) hX (dc_X11_hasHandFree 3 rfl) (by decide) (fun h9 => ?_) (fun h9 => ?_)
  · exact g_sub [] rfl (c_X11_hasHandFree_38 hX hO hΩ σ)
  · refine g_aload_n hX (dc_X11_hasHandFree 4 rfl) rfl 0 rfl ?_
    refine g_getF (q := 22) hX (dc_X11_hasHandFree 5 rfl) fl_X11_41 (by decide) rfl (stS hΩ 0 rfl) rfl ?_
    refine g_getF (q := 35) hX (dc_X11_hasHandFree 6 rfl) fl_X11_140 (by decide) rfl (stS hΩ 22 rfl) rfl ?_
    refine g_iload_n hX (dc_X11_hasHandFree 7 rfl) rfl 1 rfl ?_
    refine gV_PI (As := [.int x1]) (st := []) hX (dc_X11_hasHandFree 8 rfl) ml_X11_217 (con_X8_load hO hΩ 35 x1 σ (stR hΩ 35 (by decide))) (stS hΩ 35 rfl) rfl rfl ⟨by decide, by decide⟩ ⟨rfl, rfl⟩ ⟨Nat.zero_le _, Nat.zero_le _⟩ (Nat.le_of_ble_eq_true rfl) (fun r10 _ => ?_)
    refine g_aload_n hX (dc_X11_hasHandFree 9 rfl) rfl 0 rfl ?_
    refine g_getF (q := 22) hX (dc_X11_hasHandFree 10 rfl) fl_X11_41 (by decide) rfl (stS hΩ 0 rfl) rfl ?_
    refine g_getF (q := 23) hX (dc_X11_hasHandFree 11 rfl) fl_X11_51 (by decide) rfl (stS hΩ 22 rfl) rfl ?_
    refine g_getF (q := 28) hX (dc_X11_hasHandFree 12 rfl) fl_X11_152 (by decide) rfl (stS hΩ 23 rfl) rfl ?_
    refine g_iload_n hX (dc_X11_hasHandFree 13 rfl) rfl 1 rfl ?_
    refine g_chk (fun hc11 => ?_)
    refine g_iald hX (dc_X11_hasHandFree 14 rfl) (stS hΩ 28 rfl) hc11 rfl ?_
    refine g_icmp_ge (tgt := 38) hX (dc_X11_hasHandFree 15 rfl) (by decide) (fun h12 => ?_) (fun h12 => ?_)
    · exact g_sub [] rfl (c_X11_hasHandFree_38 hX hO hΩ σ)
    · refine g_iconst (w := (1 : Int32)) hX (dc_X11_hasHandFree 16 rfl) (by decide) ?_
      refine g_goto (tgt := 39) hX (dc_X11_hasHandFree 17 rfl) (by decide) ?_
      exact g_sub [] rfl (c_X11_hasHandFree_39 hX hO hΩ σ ((1 : Int32)))
def f_X11_hasHandFree (x1 : Int32) (σ : MS) : Option (Int32) := b_X11_hasHandFree_0  x1 σ
theorem con_X11_hasHandFree {Ω : OM} (hO : OKO Ω) (hΩ : oSH Ω = SHX) (x1 : Int32) (σ : MS)  : Con Ω yX11_hasHandFree cX11_hasHandFree 2 (some .boolean) rm_X11_hasHandFree (emPI σ) [.ref 0, .int x1] σ (f_X11_hasHandFree x1 σ) :=
  con_of hO (by decide +kernel) (Nat.le_of_ble_eq_true rfl) rfl (fun X hX _ => c_X11_hasHandFree_0 hX hO hΩ   σ x1)
def it_X11_ruleNumbered : List (Nat × Instr × Nat × Nat) := [(0, .iload_n 1, 1, 1), (1, .ifCond .lt 20, 3, 4), (4, .iload_n 1, 1, 5), (5, .aload_n 0, 1, 6), (6, .getfield 114, 3, 9), (9, .if_icmp .ge 12, 3, 12), (12, .aload_n 0, 1, 13), (13, .getfield 34, 3, 16), (16, .iload_n 1, 1, 17), (17, .aaload, 1, 18), (18, .goto 4, 3, 21), (21, .aconst_null, 1, 22), (22, .areturn, 1, 23)]
theorem id_X11_ruleNumbered : ∀ q ∈ it_X11_ruleNumbered, decode cX11_ruleNumbered q.1 = .ok (q.2.1, q.2.2.1) ∧ q.1 + q.2.2.1 = q.2.2.2 := by decide +kernel
theorem dc_X11_ruleNumbered {pc : Nat} {i : Instr} {n pc' : Nat} (j : Nat) (h : it_X11_ruleNumbered[j]? = some (pc, i, n, pc')) : Dc cX11_ruleNumbered pc i n pc' := dc_of id_X11_ruleNumbered j h
abbrev rm_X11_ruleNumbered : Room := { frames := 0, cells := 0, slots := 0, locals := 0 }
def b_X11_ruleNumbered_22    (os0 : Option Nat) (σ : MS) : Option (Option Nat) := some os0
set_option maxHeartbeats 4000000 in
set_option maxRecDepth 20000 in
theorem c_X11_ruleNumbered_22 {X : CX} {Ω : OM} (hX : CF X Ω RX11 cX11_ruleNumbered 2 (some (.object "StampDuchy$Rule")) rm_X11_ruleNumbered) (hO : OKO Ω) (hΩ : oSH Ω = SHX)   (σ : MS)   (os0 : Option Nat)   : GE X Ω 2 0 0 (emPN σ) 0 0 22 [] [va_rf os0] σ (b_X11_ruleNumbered_22  os0 σ) := by
  unfold b_X11_ruleNumbered_22
  exact g_aret (r := os0) hX (dc_X11_ruleNumbered 12 rfl) (Or.inl ⟨_, rfl⟩) rfl (Nat.le_refl _) (Nat.le_refl _)
def b_X11_ruleNumbered_21     (σ : MS) : Option (Option Nat) := (b_X11_ruleNumbered_22 none σ)
set_option maxHeartbeats 4000000 in
set_option maxRecDepth 20000 in
theorem c_X11_ruleNumbered_21 {X : CX} {Ω : OM} (hX : CF X Ω RX11 cX11_ruleNumbered 2 (some (.object "StampDuchy$Rule")) rm_X11_ruleNumbered) (hO : OKO Ω) (hΩ : oSH Ω = SHX)   (σ : MS)      : GE X Ω 2 0 0 (emPN σ) 0 0 21 [] [] σ (b_X11_ruleNumbered_21  σ) := by
  unfold b_X11_ruleNumbered_21
  refine g_null hX (dc_X11_ruleNumbered 11 rfl) ?_
  exact g_sub [] rfl (c_X11_ruleNumbered_22 hX hO hΩ σ none)
def b_X11_ruleNumbered_0   (x1 : Int32)  (σ : MS) : Option (Option Nat) := (if x1 < 0 then (b_X11_ruleNumbered_21 σ) else (if (sI σ 0 11) ≤ x1 then (b_X11_ruleNumbered_21 σ) else chk (inb x1 6) ((onr (sR σ 21 (ix x1)) ((b_X11_ruleNumbered_22 none σ)) (fun b10 => @chk (okRule σ b10) (dec_okRule σ b10) _ ((b_X11_ruleNumbered_22 (some b10) σ)))))))
set_option maxHeartbeats 4000000 in
set_option maxRecDepth 20000 in
theorem c_X11_ruleNumbered_0 {X : CX} {Ω : OM} (hX : CF X Ω RX11 cX11_ruleNumbered 2 (some (.object "StampDuchy$Rule")) rm_X11_ruleNumbered) (hO : OKO Ω) (hΩ : oSH Ω = SHX)   (σ : MS)  (x1 : Int32)    : GE X Ω 2 0 0 (emPN σ) 0 0 0 [(0, .ref 0), (1, .int x1)] [] σ (b_X11_ruleNumbered_0  x1 σ) := by
  unfold b_X11_ruleNumbered_0
  refine g_iload_n hX (dc_X11_ruleNumbered 0 rfl) rfl 1 rfl ?_
  refine g_if_lt (tgt := 21) hX (dc_X11_ruleNumbered 1 rfl) (by decide) (fun h7 => ?_) (fun h7 => ?_)
  · exact g_sub [] rfl (c_X11_ruleNumbered_21 hX hO hΩ σ)
  · refine g_iload_n hX (dc_X11_ruleNumbered 2 rfl) rfl 1 rfl ?_
    refine g_aload_n hX (dc_X11_ruleNumbered 3 rfl) rfl 0 rfl ?_
    refine g_getI hX (dc_X11_ruleNumbered 4 rfl) fl_X11_114 (by decide) rfl (stS hΩ 0 rfl) ?_
    refine g_icmp_ge (tgt := 21) hX (dc_X11_ruleNumbered 5 rfl) (by decide) (fun h8 => ?_) (fun h8 => ?_)
    · exact g_sub [] rfl (c_X11_ruleNumbered_21 hX hO hΩ σ)
    · refine g_aload_n hX (dc_X11_ruleNumbered 6 rfl) rfl 0 rfl ?_
      refine g_getF (q := 21) hX (dc_X11_ruleNumbered 7 rfl) fl_X11_34 (by decide) rfl (stS hΩ 0 rfl) rfl ?_
      refine g_iload_n hX (dc_X11_ruleNumbered 8 rfl) rfl 1 rfl ?_
      refine g_chk (fun hc9 => ?_)
      refine g_aald hX (dc_X11_ruleNumbered 9 rfl) (stS hΩ 21 rfl) ⟨by decide, by decide⟩ rfl hc9 rfl (fun _ => ?_) (fun b10 hb11 => ?_)
      · refine g_goto (tgt := 22) hX (dc_X11_ruleNumbered 10 rfl) (by decide) ?_
        exact g_sub [] rfl (c_X11_ruleNumbered_22 hX hO hΩ σ none)
      · refine g_chkd (fun ho12 => ?_)
        refine g_goto (tgt := 22) hX (dc_X11_ruleNumbered 10 rfl) (by decide) ?_
        exact g_sub [] rfl (c_X11_ruleNumbered_22 hX hO hΩ σ (some b10))
def f_X11_ruleNumbered (x1 : Int32) (σ : MS) : Option (Option Nat) := b_X11_ruleNumbered_0  x1 σ
theorem con_X11_ruleNumbered {Ω : OM} (hO : OKO Ω) (hΩ : oSH Ω = SHX) (x1 : Int32) (σ : MS)  : Con Ω yX11_ruleNumbered cX11_ruleNumbered 2 (some (.object "StampDuchy$Rule")) rm_X11_ruleNumbered (emPN σ) [.ref 0, .int x1] σ (f_X11_ruleNumbered x1 σ) :=
  con_of hO (by decide +kernel) (Nat.le_of_ble_eq_true rfl) rfl (fun X hX _ => c_X11_ruleNumbered_0 hX hO hΩ   σ x1)
def it_X11_canStart : List (Nat × Instr × Nat × Nat) := [(0, .aload_n 0, 1, 1), (1, .iload_n 1, 1, 2), (2, .invokevirtual 162, 3, 5), (5, .ifCond .eq 31, 3, 8), (8, .aload_n 0, 1, 9), (9, .iload_n 1, 1, 10), (10, .invokevirtual 251, 3, 13), (13, .ifCond .ne 23, 3, 16), (16, .aload_n 0, 1, 17), (17, .iload_n 2, 1, 18), (18, .invokevirtual 159, 3, 21), (21, .ifCond .eq 15, 3, 24), (24, .aload_n 0, 1, 25), (25, .iload_n 2, 1, 26), (26, .invokevirtual 254, 3, 29), (29, .ifCond .eq 7, 3, 32), (32, .iconst 1, 1, 33), (33, .goto 4, 3, 36), (36, .iconst 0, 1, 37), (37, .ireturn, 1, 38)]
theorem id_X11_canStart : ∀ q ∈ it_X11_canStart, decode cX11_canStart q.1 = .ok (q.2.1, q.2.2.1) ∧ q.1 + q.2.2.1 = q.2.2.2 := by decide +kernel
theorem dc_X11_canStart {pc : Nat} {i : Instr} {n pc' : Nat} (j : Nat) (h : it_X11_canStart[j]? = some (pc, i, n, pc')) : Dc cX11_canStart pc i n pc' := dc_of id_X11_canStart j h
abbrev rm_X11_canStart : Room := { frames := 3, cells := 0, slots := 0, locals := 65 }
def b_X11_canStart_37    (s0 : Int32) (σ : MS) : Option (Int32) := chk (s0 = 0 ∨ s0 = 1) (some s0)
set_option maxHeartbeats 4000000 in
set_option maxRecDepth 20000 in
theorem c_X11_canStart_37 {X : CX} {Ω : OM} (hX : CF X Ω RX11 cX11_canStart 3 (some .boolean) rm_X11_canStart) (hO : OKO Ω) (hΩ : oSH Ω = SHX)   (σ : MS)   (s0 : Int32)   : GE X Ω 3 0 0 (emPI σ) 0 0 37 [] [.int s0] σ (b_X11_canStart_37  s0 σ) := by
  unfold b_X11_canStart_37
  refine g_chk (fun hc10 => ?_)
  exact g_iret hX (dc_X11_canStart 19 rfl) (nz_bool hc10).1 rfl (Nat.le_refl _) (Nat.le_refl _)
def b_X11_canStart_36     (σ : MS) : Option (Int32) := (b_X11_canStart_37 ((0 : Int32)) σ)
set_option maxHeartbeats 4000000 in
set_option maxRecDepth 20000 in
theorem c_X11_canStart_36 {X : CX} {Ω : OM} (hX : CF X Ω RX11 cX11_canStart 3 (some .boolean) rm_X11_canStart) (hO : OKO Ω) (hΩ : oSH Ω = SHX)   (σ : MS)      : GE X Ω 3 0 0 (emPI σ) 0 0 36 [] [] σ (b_X11_canStart_36  σ) := by
  unfold b_X11_canStart_36
  refine g_iconst (w := (0 : Int32)) hX (dc_X11_canStart 18 rfl) (by decide) ?_
  exact g_sub [] rfl (c_X11_canStart_37 hX hO hΩ σ ((0 : Int32)))
def b_X11_canStart_0   (x1 : Int32) (x2 : Int32)  (σ : MS) : Option (Int32) := (f_X11_isWork x1 σ).bind (fun r11 => (if r11 = 0 then (b_X11_canStart_36 σ) else (f_X11_goes x1 σ).bind (fun r13 => (if r13 = 0 then (f_X11_isAwake x2 σ).bind (fun r15 => (if r15 = 0 then (b_X11_canStart_36 σ) else (f_X11_hasHandFree x2 σ).bind (fun r17 => (if r17 = 0 then (b_X11_canStart_36 σ) else (b_X11_canStart_37 ((1 : Int32)) σ))))) else (b_X11_canStart_36 σ)))))
set_option maxHeartbeats 4000000 in
set_option maxRecDepth 20000 in
theorem c_X11_canStart_0 {X : CX} {Ω : OM} (hX : CF X Ω RX11 cX11_canStart 3 (some .boolean) rm_X11_canStart) (hO : OKO Ω) (hΩ : oSH Ω = SHX)   (σ : MS)  (x1 : Int32) (x2 : Int32)    : GE X Ω 3 0 0 (emPI σ) 0 0 0 [(0, .ref 0), (1, .int x1), (2, .int x2)] [] σ (b_X11_canStart_0  x1 x2 σ) := by
  unfold b_X11_canStart_0
  refine g_aload_n hX (dc_X11_canStart 0 rfl) rfl 0 rfl ?_
  refine g_iload_n hX (dc_X11_canStart 1 rfl) rfl 1 rfl ?_
  refine gV_PI (As := [.int x1]) (st := []) hX (dc_X11_canStart 2 rfl) ml_X11_162 (con_X11_isWork hO hΩ x1 σ) (stS hΩ 0 rfl) rfl rfl ⟨by decide, by decide⟩ ⟨rfl, rfl⟩ ⟨Nat.zero_le _, Nat.zero_le _⟩ (Nat.le_of_ble_eq_true rfl) (fun r11 _ => ?_)
  refine g_if_eq (tgt := 36) hX (dc_X11_canStart 3 rfl) (by decide) (fun h12 => ?_) (fun h12 => ?_)
  · exact g_sub [] rfl (c_X11_canStart_36 hX hO hΩ σ)
  · refine g_aload_n hX (dc_X11_canStart 4 rfl) rfl 0 rfl ?_
    refine g_iload_n hX (dc_X11_canStart 5 rfl) rfl 1 rfl ?_
    refine gV_PI (As := [.int x1]) (st := []) hX (dc_X11_canStart 6 rfl) ml_X11_251 (con_X11_goes hO hΩ x1 σ) (stS hΩ 0 rfl) rfl rfl ⟨by decide, by decide⟩ ⟨rfl, rfl⟩ ⟨Nat.zero_le _, Nat.zero_le _⟩ (Nat.le_of_ble_eq_true rfl) (fun r13 _ => ?_)
    refine g_if_ne (tgt := 36) hX (dc_X11_canStart 7 rfl) (by decide) (fun h14 => ?_) (fun h14 => ?_)
    · refine g_aload_n hX (dc_X11_canStart 8 rfl) rfl 0 rfl ?_
      refine g_iload_n hX (dc_X11_canStart 9 rfl) rfl 2 rfl ?_
      refine gV_PI (As := [.int x2]) (st := []) hX (dc_X11_canStart 10 rfl) ml_X11_159 (con_X11_isAwake hO hΩ x2 σ) (stS hΩ 0 rfl) rfl rfl ⟨by decide, by decide⟩ ⟨rfl, rfl⟩ ⟨Nat.zero_le _, Nat.zero_le _⟩ (Nat.le_of_ble_eq_true rfl) (fun r15 _ => ?_)
      refine g_if_eq (tgt := 36) hX (dc_X11_canStart 11 rfl) (by decide) (fun h16 => ?_) (fun h16 => ?_)
      · exact g_sub [] rfl (c_X11_canStart_36 hX hO hΩ σ)
      · refine g_aload_n hX (dc_X11_canStart 12 rfl) rfl 0 rfl ?_
        refine g_iload_n hX (dc_X11_canStart 13 rfl) rfl 2 rfl ?_
        refine gV_PI (As := [.int x2]) (st := []) hX (dc_X11_canStart 14 rfl) ml_X11_254 (con_X11_hasHandFree hO hΩ x2 σ) (stS hΩ 0 rfl) rfl rfl ⟨by decide, by decide⟩ ⟨rfl, rfl⟩ ⟨Nat.zero_le _, Nat.zero_le _⟩ (Nat.le_of_ble_eq_true rfl) (fun r17 _ => ?_)
        refine g_if_eq (tgt := 36) hX (dc_X11_canStart 15 rfl) (by decide) (fun h18 => ?_) (fun h18 => ?_)
        · exact g_sub [] rfl (c_X11_canStart_36 hX hO hΩ σ)
        · refine g_iconst (w := (1 : Int32)) hX (dc_X11_canStart 16 rfl) (by decide) ?_
          refine g_goto (tgt := 37) hX (dc_X11_canStart 17 rfl) (by decide) ?_
          exact g_sub [] rfl (c_X11_canStart_37 hX hO hΩ σ ((1 : Int32)))
    · exact g_sub [] rfl (c_X11_canStart_36 hX hO hΩ σ)
def f_X11_canStart (x1 : Int32) (x2 : Int32) (σ : MS) : Option (Int32) := b_X11_canStart_0  x1 x2 σ
theorem con_X11_canStart {Ω : OM} (hO : OKO Ω) (hΩ : oSH Ω = SHX) (x1 : Int32) (x2 : Int32) (σ : MS)  : Con Ω yX11_canStart cX11_canStart 3 (some .boolean) rm_X11_canStart (emPI σ) [.ref 0, .int x1, .int x2] σ (f_X11_canStart x1 x2 σ) :=
  con_of hO (by decide +kernel) (Nat.le_of_ble_eq_true rfl) rfl (fun X hX _ => c_X11_canStart_0 hX hO hΩ   σ x1 x2)
def it_X11_undo : List (Nat × Instr × Nat × Nat) := [(0, .aload_n 0, 1, 1), (1, .getfield 41, 3, 4), (4, .invokevirtual 260, 3, 7), (7, .ifCond .eq 13, 3, 10), (10, .aload_n 0, 1, 11), (11, .getfield 41, 3, 14), (14, .getfield 207, 3, 17), (17, .goto 5, 3, 20), (20, .bipush (-2), 2, 22), (22, .ireturn, 1, 23)]
theorem id_X11_undo : ∀ q ∈ it_X11_undo, decode cX11_undo q.1 = .ok (q.2.1, q.2.2.1) ∧ q.1 + q.2.2.1 = q.2.2.2 := by decide +kernel
theorem dc_X11_undo {pc : Nat} {i : Instr} {n pc' : Nat} (j : Nat) (h : it_X11_undo[j]? = some (pc, i, n, pc')) : Dc cX11_undo pc i n pc' := dc_of id_X11_undo j h
abbrev rm_X11_undo : Room := { frames := 3, cells := 0, slots := 0, locals := 102 }
def b_X11_undo_22    (s0 : Int32) (σ : MS) : Option (Int32 × MS) := some (s0, σ)
set_option maxHeartbeats 4000000 in
set_option maxRecDepth 20000 in
theorem c_X11_undo_22 {X : CX} {Ω : OM} (hX : CF X Ω RX11 cX11_undo 1 (some .int) rm_X11_undo) (hO : OKO Ω) (hΩ : oSH Ω = SHX)     (s0 : Int32) (σ : MS)  : GE X Ω 1 0 0 (emWI) 0 0 22 [] [.int s0] σ (b_X11_undo_22  s0 σ) := by
  unfold b_X11_undo_22
  exact g_iret hX (dc_X11_undo 9 rfl) rfl rfl (Nat.le_refl _) (Nat.le_refl _)
def b_X11_undo_0     (σ : MS) : Option (Int32 × MS) := (f_X10_undoLast σ).bind (fun r3 => (if r3.1 = 0 then (b_X11_undo_22 ((-2 : Int32)) r3.2) else (b_X11_undo_22 ((sI r3.2 22 4)) r3.2)))
set_option maxHeartbeats 4000000 in
set_option maxRecDepth 20000 in
theorem c_X11_undo_0 {X : CX} {Ω : OM} (hX : CF X Ω RX11 cX11_undo 1 (some .int) rm_X11_undo) (hO : OKO Ω) (hΩ : oSH Ω = SHX)      (σ : MS)  : GE X Ω 1 0 0 (emWI) 0 0 0 [(0, .ref 0)] [] σ (b_X11_undo_0  σ) := by
  unfold b_X11_undo_0
  refine g_aload_n hX (dc_X11_undo 0 rfl) rfl 0 rfl ?_
  refine g_getF (q := 22) hX (dc_X11_undo 1 rfl) fl_X11_41 (by decide) rfl (stS hΩ 0 rfl) rfl ?_
  refine gV_WI (As := []) (st := []) hX (dc_X11_undo 2 rfl) ml_X11_260 (con_X10_undoLast hO hΩ σ) (stS hΩ 22 rfl) rfl rfl ⟨by decide, by decide⟩ ⟨rfl, rfl⟩ ⟨Nat.zero_le _, Nat.zero_le _⟩ (Nat.le_of_ble_eq_true rfl) (fun r3 _ => ?_)
  refine g_if_eq (tgt := 20) hX (dc_X11_undo 3 rfl) (by decide) (fun h4 => ?_) (fun h4 => ?_)
  · refine g_bipush (w := (-2 : Int32)) hX (dc_X11_undo 8 rfl) (by decide) ?_
    exact g_sub [] rfl (c_X11_undo_22 hX hO hΩ ((-2 : Int32)) r3.2)
  · refine g_aload_n hX (dc_X11_undo 4 rfl) rfl 0 rfl ?_
    refine g_getF (q := 22) hX (dc_X11_undo 5 rfl) fl_X11_41 (by decide) rfl (stS hΩ 0 rfl) rfl ?_
    refine g_getI hX (dc_X11_undo 6 rfl) fl_X11_207 (by decide) rfl (stS hΩ 22 rfl) ?_
    refine g_goto (tgt := 22) hX (dc_X11_undo 7 rfl) (by decide) ?_
    exact g_sub [] rfl (c_X11_undo_22 hX hO hΩ ((sI r3.2 22 4)) r3.2)
def f_X11_undo  (σ : MS) : Option (Int32 × MS) := b_X11_undo_0   σ
theorem con_X11_undo {Ω : OM} (hO : OKO Ω) (hΩ : oSH Ω = SHX)  (σ : MS)  : Con Ω yX11_undo cX11_undo 1 (some .int) rm_X11_undo (emWI) [.ref 0] σ (f_X11_undo  σ) :=
  con_of hO (by decide +kernel) (Nat.le_of_ble_eq_true rfl) rfl (fun X hX _ => c_X11_undo_0 hX hO hΩ    σ )
def it_X11_startTrial : List (Nat × Instr × Nat × Nat) := [(0, .aload_n 0, 1, 1), (1, .getfield 58, 3, 4), (4, .aload_n 0, 1, 5), (5, .aload_n 0, 1, 6), (6, .getfield 41, 3, 9), (9, .getfield 125, 3, 12), (12, .invokevirtual 227, 3, 15), (15, .iload_n 1, 1, 16), (16, .invokevirtual 231, 3, 19), (19, .aload_n 0, 1, 20), (20, .getfield 65, 3, 23), (23, .aload_n 0, 1, 24), (24, .getfield 41, 3, 27), (27, .getfield 140, 3, 30), (30, .invokevirtual 277, 3, 33), (33, .return_, 1, 34)]
theorem id_X11_startTrial : ∀ q ∈ it_X11_startTrial, decode cX11_startTrial q.1 = .ok (q.2.1, q.2.2.1) ∧ q.1 + q.2.2.1 = q.2.2.2 := by decide +kernel
theorem dc_X11_startTrial {pc : Nat} {i : Instr} {n pc' : Nat} (j : Nat) (h : it_X11_startTrial[j]? = some (pc, i, n, pc')) : Dc cX11_startTrial pc i n pc' := dc_of id_X11_startTrial j h
abbrev rm_X11_startTrial : Room := { frames := 2, cells := 0, slots := 0, locals := 81 }
def b_X11_startTrial_0   (x1 : Int32)  (σ : MS) : Option (MS) := (f_X11_ruleNumbered (sI σ 22 9) σ).bind (fun r4 => (f_X1_follow r4 x1 σ).bind (fun r5 => (f_X8_copyFrom 46 35 r5).bind (fun r6 => some (r6))))
set_option maxHeartbeats 4000000 in
set_option maxRecDepth 20000 in
theorem c_X11_startTrial_0 {X : CX} {Ω : OM} (hX : CF X Ω RX11 cX11_startTrial 2 none rm_X11_startTrial) (hO : OKO Ω) (hΩ : oSH Ω = SHX)    (x1 : Int32)  (σ : MS)  : GE X Ω 2 0 0 (emWV) 0 0 0 [(0, .ref 0), (1, .int x1)] [] σ (b_X11_startTrial_0  x1 σ) := by
  unfold b_X11_startTrial_0
  refine g_aload_n hX (dc_X11_startTrial 0 rfl) rfl 0 rfl ?_
  refine g_getF (q := 44) hX (dc_X11_startTrial 1 rfl) fl_X11_58 (by decide) rfl (stS hΩ 0 rfl) rfl ?_
  refine g_aload_n hX (dc_X11_startTrial 2 rfl) rfl 0 rfl ?_
  refine g_aload_n hX (dc_X11_startTrial 3 rfl) rfl 0 rfl ?_
  refine g_getF (q := 22) hX (dc_X11_startTrial 4 rfl) fl_X11_41 (by decide) rfl (stS hΩ 0 rfl) rfl ?_
  refine g_getI hX (dc_X11_startTrial 5 rfl) fl_X11_125 (by decide) rfl (stS hΩ 22 rfl) ?_
  refine gV_PN (As := [.int (sI σ 22 9)]) (st := [.ref 44]) hX (dc_X11_startTrial 6 rfl) ml_X11_227 (con_X11_ruleNumbered hO hΩ (sI σ 22 9) σ) (stS hΩ 0 rfl) rfl rfl ⟨by decide, by decide⟩ ⟨rfl, rfl⟩ ⟨Nat.zero_le _, Nat.zero_le _⟩ (Nat.le_of_ble_eq_true rfl) (fun r4 _ => ?_)
  refine g_iload_n hX (dc_X11_startTrial 7 rfl) rfl 1 rfl ?_
  refine gV_WV (As := [va_rf r4, .int x1]) (st := []) hX (dc_X11_startTrial 8 rfl) ml_X11_231 (con_X1_follow hO hΩ r4 x1 σ) (stS hΩ 44 rfl) rfl rfl ⟨by decide, by decide⟩ ⟨rfl, rfl⟩ ⟨Nat.zero_le _, Nat.zero_le _⟩ (Nat.le_of_ble_eq_true rfl) (fun r5 _ => ?_)
  refine g_aload_n hX (dc_X11_startTrial 9 rfl) rfl 0 rfl ?_
  refine g_getF (q := 46) hX (dc_X11_startTrial 10 rfl) fl_X11_65 (by decide) rfl (stS hΩ 0 rfl) rfl ?_
  refine g_aload_n hX (dc_X11_startTrial 11 rfl) rfl 0 rfl ?_
  refine g_getF (q := 22) hX (dc_X11_startTrial 12 rfl) fl_X11_41 (by decide) rfl (stS hΩ 0 rfl) rfl ?_
  refine g_getF (q := 35) hX (dc_X11_startTrial 13 rfl) fl_X11_140 (by decide) rfl (stS hΩ 22 rfl) rfl ?_
  refine gV_WV (As := [.ref 35]) (st := []) hX (dc_X11_startTrial 14 rfl) ml_X11_277 (con_X8_copyFrom hO hΩ 46 35 r5 (stR hΩ 46 (by decide)).t (stR hΩ 35 (by decide)).t) (stS hΩ 46 rfl) rfl rfl ⟨by decide, by decide⟩ ⟨rfl, rfl⟩ ⟨Nat.zero_le _, Nat.zero_le _⟩ (Nat.le_of_ble_eq_true rfl) (fun r6 _ => ?_)
  exact g_vret hX (dc_X11_startTrial 15 rfl) rfl (Nat.le_refl _) (Nat.le_refl _)
def f_X11_startTrial (x1 : Int32) (σ : MS) : Option (MS) := b_X11_startTrial_0  x1 σ
theorem con_X11_startTrial {Ω : OM} (hO : OKO Ω) (hΩ : oSH Ω = SHX) (x1 : Int32) (σ : MS)  : Con Ω yX11_startTrial cX11_startTrial 2 none rm_X11_startTrial (emWV) [.ref 0, .int x1] σ (f_X11_startTrial x1 σ) :=
  con_of hO (by decide +kernel) (Nat.le_of_ble_eq_true rfl) rfl (fun X hX _ => c_X11_startTrial_0 hX hO hΩ   x1 σ )
def it_X11_stopsInTrial : List (Nat × Instr × Nat × Nat) := [(0, .iconst 0, 1, 1), (1, .istore_n 2, 1, 2), (2, .iconst 0, 1, 3), (3, .istore_n 3, 1, 4), (4, .iload_n 3, 1, 5), (5, .iload_n 1, 1, 6), (6, .if_icmp .ge 26, 3, 9), (9, .iload_n 2, 1, 10), (10, .aload_n 0, 1, 11), (11, .getfield 58, 3, 14), (14, .aload_n 0, 1, 15), (15, .getfield 65, 3, 18), (18, .invokevirtual 235, 3, 21), (21, .invokestatic 239, 3, 24), (24, .iadd, 1, 25), (25, .istore_n 2, 1, 26), (26, .iinc 3 1, 3, 29), (29, .goto (-25), 3, 32), (32, .iload_n 2, 1, 33), (33, .ireturn, 1, 34)]
theorem id_X11_stopsInTrial : ∀ q ∈ it_X11_stopsInTrial, decode cX11_stopsInTrial q.1 = .ok (q.2.1, q.2.2.1) ∧ q.1 + q.2.2.1 = q.2.2.2 := by decide +kernel
theorem dc_X11_stopsInTrial {pc : Nat} {i : Instr} {n pc' : Nat} (j : Nat) (h : it_X11_stopsInTrial[j]? = some (pc, i, n, pc')) : Dc cX11_stopsInTrial pc i n pc' := dc_of id_X11_stopsInTrial j h
abbrev rm_X11_stopsInTrial : Room := { frames := 6, cells := 0, slots := 0, locals := 148 }
def b_X11_stopsInTrial_4   : Nat → Int32 → Int32 → Int32 → MS → Option (Int32 × MS)
  | 0, _, _, _, _ => none
  | n + 1, y1, y2, y3, σ => (if y1 ≤ y3 then some (y2, σ) else (f_X1_passHour 46 σ).bind (fun r5 => (f_J6_bitCount_0f7a4 r5.1).bind (fun r6 => ((b_X11_stopsInTrial_4  n) (y1) ((y2 + r6)) ((y3 + (1 : Int32))) r5.2))))
set_option maxHeartbeats 4000000 in
set_option maxRecDepth 20000 in
theorem c_X11_stopsInTrial_4 {X : CX} {Ω : OM} (hX : CF X Ω RX11 cX11_stopsInTrial 4 (some .int) rm_X11_stopsInTrial) (hO : OKO Ω) (hΩ : oSH Ω = SHX)    : ∀ (n : Nat) (y1 : Int32) (y2 : Int32) (y3 : Int32) (σ : MS) , GE X Ω 4 0 0 (emWI) 0 0 4 [(0, .ref 0), (1, .int y1), (2, .int y2), (3, .int y3)] [] σ (b_X11_stopsInTrial_4  n y1 y2 y3 σ)
  | 0, _, _, _, _ => g_none
  | n + 1, y1, y2, y3, σ => by
    have hk4 := c_X11_stopsInTrial_4 hX hO hΩ  n
    unfold b_X11_stopsInTrial_4
    refine g_iload_n hX (dc_X11_stopsInTrial 4 rfl) rfl 3 rfl ?_
    refine g_iload_n hX (dc_X11_stopsInTrial 5 rfl) rfl 1 rfl ?_
    refine g_icmp_ge (tgt := 32) hX (dc_X11_stopsInTrial 6 rfl) (by decide) (fun h4 => ?_) (fun h4 => ?_)
    · refine g_iload_n hX (dc_X11_stopsInTrial 18 rfl) rfl 2 rfl ?_
      exact g_iret hX (dc_X11_stopsInTrial 19 rfl) rfl rfl (Nat.le_refl _) (Nat.le_refl _)
    · refine g_iload_n hX (dc_X11_stopsInTrial 7 rfl) rfl 2 rfl ?_
      refine g_aload_n hX (dc_X11_stopsInTrial 8 rfl) rfl 0 rfl ?_
      refine g_getF (q := 44) hX (dc_X11_stopsInTrial 9 rfl) fl_X11_58 (by decide) rfl (stS hΩ 0 rfl) rfl ?_
      refine g_aload_n hX (dc_X11_stopsInTrial 10 rfl) rfl 0 rfl ?_
      refine g_getF (q := 46) hX (dc_X11_stopsInTrial 11 rfl) fl_X11_65 (by decide) rfl (stS hΩ 0 rfl) rfl ?_
      refine gV_WI (As := [.ref 46]) (st := [.int y2]) hX (dc_X11_stopsInTrial 12 rfl) ml_X11_235 (con_X1_passHour hO hΩ 46 σ (stR hΩ 46 (by decide))) (stS hΩ 44 rfl) rfl rfl ⟨by decide, by decide⟩ ⟨rfl, rfl⟩ ⟨Nat.zero_le _, Nat.zero_le _⟩ (Nat.le_of_ble_eq_true rfl) (fun r5 _ => ?_)
      refine gS_PI (As := [.int r5.1]) (st := [.int y2]) hX (dc_X11_stopsInTrial 13 rfl) ml_X11_239 (con_J6_bitCount_0f7a4 hO hΩ r5.1 r5.2) rfl rfl ⟨by decide, by decide⟩ ⟨rfl, rfl⟩ ⟨Nat.zero_le _, Nat.zero_le _⟩ (Nat.le_of_ble_eq_true rfl) (fun r6 _ => ?_)
      refine g_iadd hX (dc_X11_stopsInTrial 14 rfl) ?_
      refine g_istore_n (L' := [(2, .int (y2 + r6)), (0, .ref 0), (1, .int y1), (3, .int y3)]) hX (dc_X11_stopsInTrial 15 rfl) rfl (by decide) rfl ?_
      refine g_iinc (w := (y3 + (1 : Int32))) (L' := [(3, .int (y3 + (1 : Int32))), (2, .int (y2 + r6)), (0, .ref 0), (1, .int y1)]) hX (dc_X11_stopsInTrial 16 rfl) 3 rfl rfl (by decide) rfl ?_
      refine g_goto (tgt := 4) hX (dc_X11_stopsInTrial 17 rfl) (by decide) ?_
      exact g_sub [2, 3, 1, 0] rfl (hk4 (y1) ((y2 + r6)) ((y3 + (1 : Int32))) r5.2 )
def b_X11_stopsInTrial_0   (x1 : Int32)  (σ : MS) : Option (Int32 × MS) := (b_X11_stopsInTrial_4 FU (x1) ((0 : Int32)) ((0 : Int32)) σ)
set_option maxHeartbeats 4000000 in
set_option maxRecDepth 20000 in
theorem c_X11_stopsInTrial_0 {X : CX} {Ω : OM} (hX : CF X Ω RX11 cX11_stopsInTrial 4 (some .int) rm_X11_stopsInTrial) (hO : OKO Ω) (hΩ : oSH Ω = SHX)    (x1 : Int32)  (σ : MS)  : GE X Ω 4 0 0 (emWI) 0 0 0 [(0, .ref 0), (1, .int x1)] [] σ (b_X11_stopsInTrial_0  x1 σ) := by
  unfold b_X11_stopsInTrial_0
  refine g_iconst (w := (0 : Int32)) hX (dc_X11_stopsInTrial 0 rfl) (by decide) ?_
  refine g_istore_n (L' := [(2, .int (0 : Int32)), (0, .ref 0), (1, .int x1)]) hX (dc_X11_stopsInTrial 1 rfl) rfl (by decide) rfl ?_
  refine g_iconst (w := (0 : Int32)) hX (dc_X11_stopsInTrial 2 rfl) (by decide) ?_
  refine g_istore_n (L' := [(3, .int (0 : Int32)), (2, .int (0 : Int32)), (0, .ref 0), (1, .int x1)]) hX (dc_X11_stopsInTrial 3 rfl) rfl (by decide) rfl ?_
  exact g_sub [2, 3, 1, 0] rfl (c_X11_stopsInTrial_4 hX hO hΩ FU (x1) ((0 : Int32)) ((0 : Int32)) σ)
def f_X11_stopsInTrial (x1 : Int32) (σ : MS) : Option (Int32 × MS) := b_X11_stopsInTrial_0  x1 σ
theorem con_X11_stopsInTrial {Ω : OM} (hO : OKO Ω) (hΩ : oSH Ω = SHX) (x1 : Int32) (σ : MS)  : Con Ω yX11_stopsInTrial cX11_stopsInTrial 4 (some .int) rm_X11_stopsInTrial (emWI) [.ref 0, .int x1] σ (f_X11_stopsInTrial x1 σ) :=
  con_of hO (by decide +kernel) (Nat.le_of_ble_eq_true rfl) rfl (fun X hX _ => c_X11_stopsInTrial_0 hX hO hΩ   x1 σ )
def it_X11_ahead : List (Nat × Instr × Nat × Nat) := [(0, .aload_n 0, 1, 1), (1, .getfield 41, 3, 4), (4, .getfield 51, 3, 7), (7, .getfield 220, 3, 10), (10, .ifCond .eq 22, 3, 13), (13, .iload_n 2, 1, 14), (14, .ifCond .lt 18, 3, 17), (17, .iload_n 2, 1, 18), (18, .bipush 100, 2, 20), (20, .if_icmp .gt 12, 3, 23), (23, .iload_n 3, 1, 24), (24, .ifCond .lt 8, 3, 27), (27, .iload_n 3, 1, 28), (28, .iconst 2, 1, 29), (29, .if_icmp .le 6, 3, 32), (32, .bipush (-2), 2, 34), (34, .ireturn, 1, 35), (35, .iload_n 3, 1, 36), (36, .ifCond .ne 11, 3, 39), (39, .aload_n 0, 1, 40), (40, .iload_n 1, 1, 41), (41, .invokevirtual 162, 3, 44), (44, .ifCond .eq 16, 3, 47), (47, .iload_n 3, 1, 48), (48, .iconst 1, 1, 49), (49, .if_icmp .ne 14, 3, 52), (52, .aload_n 0, 1, 53), (53, .iload_n 1, 1, 54), (54, .invokevirtual 137, 3, 57), (57, .ifCond .ne 6, 3, 60), (60, .bipush (-2), 2, 62), (62, .ireturn, 1, 63), (63, .aload_n 0, 1, 64), (64, .iconst (-1), 1, 65), (65, .invokevirtual 264, 3, 68), (68, .aload_n 0, 1, 69), (69, .iload_n 2, 1, 70), (70, .invokevirtual 267, 3, 73), (73, .pop, 1, 74), (74, .iload_n 3, 1, 75), (75, .lookupswitch 45 #[(0, 25), (1, 35)], 25, 100), (100, .aload_n 0, 1, 101), (101, .getfield 65, 3, 104), (104, .getfield 168, 3, 107), (107, .iload_n 1, 1, 108), (108, .iaload, 1, 109), (109, .ireturn, 1, 110), (110, .aload_n 0, 1, 111), (111, .getfield 65, 3, 114), (114, .getfield 143, 3, 117), (117, .iload_n 1, 1, 118), (118, .iaload, 1, 119), (119, .ireturn, 1, 120), (120, .aload_n 0, 1, 121), (121, .getfield 65, 3, 124), (124, .getfield 183, 3, 127), (127, .ireturn, 1, 128)]
theorem id_X11_ahead : ∀ q ∈ it_X11_ahead, decode cX11_ahead q.1 = .ok (q.2.1, q.2.2.1) ∧ q.1 + q.2.2.1 = q.2.2.2 := by decide +kernel
theorem dc_X11_ahead {pc : Nat} {i : Instr} {n pc' : Nat} (j : Nat) (h : it_X11_ahead[j]? = some (pc, i, n, pc')) : Dc cX11_ahead pc i n pc' := dc_of id_X11_ahead j h
abbrev rm_X11_ahead : Room := { frames := 7, cells := 0, slots := 0, locals := 171 }
def b_X11_ahead_60     (σ : MS) : Option (Int32 × MS) := some ((-2 : Int32), σ)
set_option maxHeartbeats 4000000 in
set_option maxRecDepth 20000 in
theorem c_X11_ahead_60 {X : CX} {Ω : OM} (hX : CF X Ω RX11 cX11_ahead 4 (some .int) rm_X11_ahead) (hO : OKO Ω) (hΩ : oSH Ω = SHX)      (σ : MS)  : GE X Ω 4 0 0 (emWI) 0 0 60 [] [] σ (b_X11_ahead_60  σ) := by
  unfold b_X11_ahead_60
  refine g_bipush (w := (-2 : Int32)) hX (dc_X11_ahead 30 rfl) (by decide) ?_
  exact g_iret hX (dc_X11_ahead 31 rfl) rfl rfl (Nat.le_refl _) (Nat.le_refl _)
def b_X11_ahead_63    (y1 : Int32) (y2 : Int32) (y3 : Int32) (σ : MS) : Option (Int32 × MS) := (f_X11_startTrial (-1 : Int32) σ).bind (fun r18 => (f_X11_stopsInTrial y2 r18).bind (fun r19 => (if y3 = (0 : Int32) then chk (inb y1 6) (some ((sI r19.2 47 (ix y1)), r19.2)) else (if y3 = (1 : Int32) then chk (inb y1 4) (some ((sI r19.2 49 (ix y1)), r19.2)) else some ((sI r19.2 46 4), r19.2)))))
set_option maxHeartbeats 4000000 in
set_option maxRecDepth 20000 in
theorem c_X11_ahead_63 {X : CX} {Ω : OM} (hX : CF X Ω RX11 cX11_ahead 4 (some .int) rm_X11_ahead) (hO : OKO Ω) (hΩ : oSH Ω = SHX)     (y1 : Int32) (y2 : Int32) (y3 : Int32) (σ : MS)  : GE X Ω 4 0 0 (emWI) 0 0 63 [(0, .ref 0), (1, .int y1), (2, .int y2), (3, .int y3)] [] σ (b_X11_ahead_63  y1 y2 y3 σ) := by
  unfold b_X11_ahead_63
  refine g_aload_n hX (dc_X11_ahead 32 rfl) rfl 0 rfl ?_
  refine g_iconst (w := (-1 : Int32)) hX (dc_X11_ahead 33 rfl) (by decide) ?_
  refine gV_WV (As := [.int (-1 : Int32)]) (st := []) hX (dc_X11_ahead 34 rfl) ml_X11_264 (con_X11_startTrial hO hΩ (-1 : Int32) σ) (stS hΩ 0 rfl) rfl rfl ⟨by decide, by decide⟩ ⟨rfl, rfl⟩ ⟨Nat.zero_le _, Nat.zero_le _⟩ (Nat.le_of_ble_eq_true rfl) (fun r18 _ => ?_)
  refine g_aload_n hX (dc_X11_ahead 35 rfl) rfl 0 rfl ?_
  refine g_iload_n hX (dc_X11_ahead 36 rfl) rfl 2 rfl ?_
  refine gV_WI (As := [.int y2]) (st := []) hX (dc_X11_ahead 37 rfl) ml_X11_267 (con_X11_stopsInTrial hO hΩ y2 r18) (stS hΩ 0 rfl) rfl rfl ⟨by decide, by decide⟩ ⟨rfl, rfl⟩ ⟨Nat.zero_le _, Nat.zero_le _⟩ (Nat.le_of_ble_eq_true rfl) (fun r19 _ => ?_)
  refine g_pop hX (dc_X11_ahead 38 rfl) rfl ?_
  refine g_iload_n hX (dc_X11_ahead 39 rfl) rfl 3 rfl ?_
  refine g_ite (fun h20 => ?_) (fun h20 => ?_)
  · refine g_lks (off := 25) (tgt := 100) hX (dc_X11_ahead 40 rfl) (by decide) (by rw [h20]; decide) (by decide) ?_
    refine g_aload_n hX (dc_X11_ahead 41 rfl) rfl 0 rfl ?_
    refine g_getF (q := 46) hX (dc_X11_ahead 42 rfl) fl_X11_65 (by decide) rfl (stS hΩ 0 rfl) rfl ?_
    refine g_getF (q := 47) hX (dc_X11_ahead 43 rfl) fl_X11_168 (by decide) rfl (stS hΩ 46 rfl) rfl ?_
    refine g_iload_n hX (dc_X11_ahead 44 rfl) rfl 1 rfl ?_
    refine g_chk (fun hc22 => ?_)
    refine g_iald hX (dc_X11_ahead 45 rfl) (stS hΩ 47 rfl) hc22 rfl ?_
    exact g_iret hX (dc_X11_ahead 46 rfl) rfl rfl (Nat.le_refl _) (Nat.le_refl _)
  · refine g_ite (fun h21 => ?_) (fun h21 => ?_)
    · refine g_lks (off := 35) (tgt := 110) hX (dc_X11_ahead 40 rfl) (by decide) (by rw [h21]; decide) (by decide) ?_
      refine g_aload_n hX (dc_X11_ahead 47 rfl) rfl 0 rfl ?_
      refine g_getF (q := 46) hX (dc_X11_ahead 48 rfl) fl_X11_65 (by decide) rfl (stS hΩ 0 rfl) rfl ?_
      refine g_getF (q := 49) hX (dc_X11_ahead 49 rfl) fl_X11_143 (by decide) rfl (stS hΩ 46 rfl) rfl ?_
      refine g_iload_n hX (dc_X11_ahead 50 rfl) rfl 1 rfl ?_
      refine g_chk (fun hc23 => ?_)
      refine g_iald hX (dc_X11_ahead 51 rfl) (stS hΩ 49 rfl) hc23 rfl ?_
      exact g_iret hX (dc_X11_ahead 52 rfl) rfl rfl (Nat.le_refl _) (Nat.le_refl _)
    · refine g_lks (off := 45) (tgt := 120) hX (dc_X11_ahead 40 rfl) (by decide) (by have e0 := i32ne h20 (k := 0) (by decide); have e1 := i32ne h21 (k := 1) (by decide); simp [Op.lookupswitch.offset, e0, Ne.symm e0, e1, Ne.symm e1]) (by decide) ?_
      refine g_aload_n hX (dc_X11_ahead 53 rfl) rfl 0 rfl ?_
      refine g_getF (q := 46) hX (dc_X11_ahead 54 rfl) fl_X11_65 (by decide) rfl (stS hΩ 0 rfl) rfl ?_
      refine g_getI hX (dc_X11_ahead 55 rfl) fl_X11_183 (by decide) rfl (stS hΩ 46 rfl) ?_
      exact g_iret hX (dc_X11_ahead 56 rfl) rfl rfl (Nat.le_refl _) (Nat.le_refl _)
def b_X11_ahead_47    (y1 : Int32) (y2 : Int32) (y3 : Int32) (σ : MS) : Option (Int32 × MS) := (if y3 = (1 : Int32) then (f_X11_isPerson y1 σ).bind (fun r25 => (if r25 = 0 then (b_X11_ahead_60 σ) else (b_X11_ahead_63 (y1) (y2) (y3) σ))) else (b_X11_ahead_63 (y1) (y2) (y3) σ))
set_option maxHeartbeats 4000000 in
set_option maxRecDepth 20000 in
theorem c_X11_ahead_47 {X : CX} {Ω : OM} (hX : CF X Ω RX11 cX11_ahead 4 (some .int) rm_X11_ahead) (hO : OKO Ω) (hΩ : oSH Ω = SHX)     (y1 : Int32) (y2 : Int32) (y3 : Int32) (σ : MS)  : GE X Ω 4 0 0 (emWI) 0 0 47 [(0, .ref 0), (1, .int y1), (2, .int y2), (3, .int y3)] [] σ (b_X11_ahead_47  y1 y2 y3 σ) := by
  unfold b_X11_ahead_47
  refine g_iload_n hX (dc_X11_ahead 23 rfl) rfl 3 rfl ?_
  refine g_iconst (w := (1 : Int32)) hX (dc_X11_ahead 24 rfl) (by decide) ?_
  refine g_icmp_ne (tgt := 63) hX (dc_X11_ahead 25 rfl) (by decide) (fun h24 => ?_) (fun h24 => ?_)
  · refine g_aload_n hX (dc_X11_ahead 26 rfl) rfl 0 rfl ?_
    refine g_iload_n hX (dc_X11_ahead 27 rfl) rfl 1 rfl ?_
    refine gV_PI (As := [.int y1]) (st := []) hX (dc_X11_ahead 28 rfl) ml_X11_137 (con_X11_isPerson hO hΩ y1 σ) (stS hΩ 0 rfl) rfl rfl ⟨by decide, by decide⟩ ⟨rfl, rfl⟩ ⟨Nat.zero_le _, Nat.zero_le _⟩ (Nat.le_of_ble_eq_true rfl) (fun r25 _ => ?_)
    refine g_if_ne (tgt := 63) hX (dc_X11_ahead 29 rfl) (by decide) (fun h26 => ?_) (fun h26 => ?_)
    · exact g_sub [] rfl (c_X11_ahead_60 hX hO hΩ σ)
    · exact g_sub [0, 1, 2, 3] rfl (c_X11_ahead_63 hX hO hΩ (y1) (y2) (y3) σ)
  · exact g_sub [0, 1, 2, 3] rfl (c_X11_ahead_63 hX hO hΩ (y1) (y2) (y3) σ)
def b_X11_ahead_32     (σ : MS) : Option (Int32 × MS) := some ((-2 : Int32), σ)
set_option maxHeartbeats 4000000 in
set_option maxRecDepth 20000 in
theorem c_X11_ahead_32 {X : CX} {Ω : OM} (hX : CF X Ω RX11 cX11_ahead 4 (some .int) rm_X11_ahead) (hO : OKO Ω) (hΩ : oSH Ω = SHX)      (σ : MS)  : GE X Ω 4 0 0 (emWI) 0 0 32 [] [] σ (b_X11_ahead_32  σ) := by
  unfold b_X11_ahead_32
  refine g_bipush (w := (-2 : Int32)) hX (dc_X11_ahead 15 rfl) (by decide) ?_
  exact g_iret hX (dc_X11_ahead 16 rfl) rfl rfl (Nat.le_refl _) (Nat.le_refl _)
def b_X11_ahead_0   (x1 : Int32) (x2 : Int32) (x3 : Int32)  (σ : MS) : Option (Int32 × MS) := (if (sI σ 23 0) = 0 then (b_X11_ahead_32 σ) else (if x2 < 0 then (b_X11_ahead_32 σ) else (if (100 : Int32) < x2 then (b_X11_ahead_32 σ) else (if x3 < 0 then (b_X11_ahead_32 σ) else (if x3 ≤ (2 : Int32) then (if x3 = 0 then (f_X11_isWork x1 σ).bind (fun r33 => (if r33 = 0 then (b_X11_ahead_60 σ) else (b_X11_ahead_47 (x1) (x2) (x3) σ))) else (b_X11_ahead_47 (x1) (x2) (x3) σ)) else (b_X11_ahead_32 σ))))))
set_option maxHeartbeats 4000000 in
set_option maxRecDepth 20000 in
theorem c_X11_ahead_0 {X : CX} {Ω : OM} (hX : CF X Ω RX11 cX11_ahead 4 (some .int) rm_X11_ahead) (hO : OKO Ω) (hΩ : oSH Ω = SHX)    (x1 : Int32) (x2 : Int32) (x3 : Int32)  (σ : MS)  : GE X Ω 4 0 0 (emWI) 0 0 0 [(0, .ref 0), (1, .int x1), (2, .int x2), (3, .int x3)] [] σ (b_X11_ahead_0  x1 x2 x3 σ) := by
  unfold b_X11_ahead_0
  refine g_aload_n hX (dc_X11_ahead 0 rfl) rfl 0 rfl ?_
  refine g_getF (q := 22) hX (dc_X11_ahead 1 rfl) fl_X11_41 (by decide) rfl (stS hΩ 0 rfl) rfl ?_
  refine g_getF (q := 23) hX (dc_X11_ahead 2 rfl) fl_X11_51 (by decide) rfl (stS hΩ 22 rfl) rfl ?_
  refine g_getI hX (dc_X11_ahead 3 rfl) fl_X11_220 (by decide) rfl (stS hΩ 23 rfl) ?_
  refine g_if_eq (tgt := 32) hX (dc_X11_ahead 4 rfl) (by decide) (fun h27 => ?_) (fun h27 => ?_)
  · exact g_sub [] rfl (c_X11_ahead_32 hX hO hΩ σ)
  · refine g_iload_n hX (dc_X11_ahead 5 rfl) rfl 2 rfl ?_
    refine g_if_lt (tgt := 32) hX (dc_X11_ahead 6 rfl) (by decide) (fun h28 => ?_) (fun h28 => ?_)
    · exact g_sub [] rfl (c_X11_ahead_32 hX hO hΩ σ)
    · refine g_iload_n hX (dc_X11_ahead 7 rfl) rfl 2 rfl ?_
      refine g_bipush (w := (100 : Int32)) hX (dc_X11_ahead 8 rfl) (by decide) ?_
      refine g_icmp_gt (tgt := 32) hX (dc_X11_ahead 9 rfl) (by decide) (fun h29 => ?_) (fun h29 => ?_)
      · exact g_sub [] rfl (c_X11_ahead_32 hX hO hΩ σ)
      · refine g_iload_n hX (dc_X11_ahead 10 rfl) rfl 3 rfl ?_
        refine g_if_lt (tgt := 32) hX (dc_X11_ahead 11 rfl) (by decide) (fun h30 => ?_) (fun h30 => ?_)
        · exact g_sub [] rfl (c_X11_ahead_32 hX hO hΩ σ)
        · refine g_iload_n hX (dc_X11_ahead 12 rfl) rfl 3 rfl ?_
          refine g_iconst (w := (2 : Int32)) hX (dc_X11_ahead 13 rfl) (by decide) ?_
          refine g_icmp_le (tgt := 35) hX (dc_X11_ahead 14 rfl) (by decide) (fun h31 => ?_) (fun h31 => ?_)
          · refine g_iload_n hX (dc_X11_ahead 17 rfl) rfl 3 rfl ?_
            refine g_if_ne (tgt := 47) hX (dc_X11_ahead 18 rfl) (by decide) (fun h32 => ?_) (fun h32 => ?_)
            · refine g_aload_n hX (dc_X11_ahead 19 rfl) rfl 0 rfl ?_
              refine g_iload_n hX (dc_X11_ahead 20 rfl) rfl 1 rfl ?_
              refine gV_PI (As := [.int x1]) (st := []) hX (dc_X11_ahead 21 rfl) ml_X11_162 (con_X11_isWork hO hΩ x1 σ) (stS hΩ 0 rfl) rfl rfl ⟨by decide, by decide⟩ ⟨rfl, rfl⟩ ⟨Nat.zero_le _, Nat.zero_le _⟩ (Nat.le_of_ble_eq_true rfl) (fun r33 _ => ?_)
              refine g_if_eq (tgt := 60) hX (dc_X11_ahead 22 rfl) (by decide) (fun h34 => ?_) (fun h34 => ?_)
              · exact g_sub [] rfl (c_X11_ahead_60 hX hO hΩ σ)
              · exact g_sub [0, 1, 2, 3] rfl (c_X11_ahead_47 hX hO hΩ (x1) (x2) (x3) σ)
            · exact g_sub [0, 1, 2, 3] rfl (c_X11_ahead_47 hX hO hΩ (x1) (x2) (x3) σ)
          · exact g_sub [] rfl (c_X11_ahead_32 hX hO hΩ σ)
def f_X11_ahead (x1 : Int32) (x2 : Int32) (x3 : Int32) (σ : MS) : Option (Int32 × MS) := b_X11_ahead_0  x1 x2 x3 σ
theorem con_X11_ahead {Ω : OM} (hO : OKO Ω) (hΩ : oSH Ω = SHX) (x1 : Int32) (x2 : Int32) (x3 : Int32) (σ : MS)  : Con Ω yX11_ahead cX11_ahead 4 (some .int) rm_X11_ahead (emWI) [.ref 0, .int x1, .int x2, .int x3] σ (f_X11_ahead x1 x2 x3 σ) :=
  con_of hO (by decide +kernel) (Nat.le_of_ble_eq_true rfl) rfl (fun X hX _ => c_X11_ahead_0 hX hO hΩ   x1 x2 x3 σ )
def it_X11_stops : List (Nat × Instr × Nat × Nat) := [(0, .aload_n 0, 1, 1), (1, .iload_n 1, 1, 2), (2, .invokevirtual 251, 3, 5), (5, .ifCond .ne 5, 3, 8), (8, .iconst (-1), 1, 9), (9, .ireturn, 1, 10), (10, .aload_n 0, 1, 11), (11, .iconst (-1), 1, 12), (12, .invokevirtual 264, 3, 15), (15, .iconst 0, 1, 16), (16, .istore_n 2, 1, 17), (17, .iload_n 2, 1, 18), (18, .sipush 200, 3, 21), (21, .if_icmp .ge 37, 3, 24), (24, .aload_n 0, 1, 25), (25, .getfield 65, 3, 28), (28, .getfield 192, 3, 31), (31, .istore_n 3, 1, 32), (32, .aload_n 0, 1, 33), (33, .getfield 58, 3, 36), (36, .aload_n 0, 1, 37), (37, .getfield 65, 3, 40), (40, .invokevirtual 235, 3, 43), (43, .iload_n 1, 1, 44), (44, .ishr, 1, 45), (45, .iconst 1, 1, 46), (46, .iand, 1, 47), (47, .ifCond .eq 5, 3, 50), (50, .iload_n 3, 1, 51), (51, .ireturn, 1, 52), (52, .iinc 2 1, 3, 55), (55, .goto (-38), 3, 58), (58, .bipush (-2), 2, 60), (60, .ireturn, 1, 61)]
theorem id_X11_stops : ∀ q ∈ it_X11_stops, decode cX11_stops q.1 = .ok (q.2.1, q.2.2.1) ∧ q.1 + q.2.2.1 = q.2.2.2 := by decide +kernel
theorem dc_X11_stops {pc : Nat} {i : Instr} {n pc' : Nat} (j : Nat) (h : it_X11_stops[j]? = some (pc, i, n, pc')) : Dc cX11_stops pc i n pc' := dc_of id_X11_stops j h
abbrev rm_X11_stops : Room := { frames := 6, cells := 0, slots := 0, locals := 148 }
def b_X11_stops_17   : Nat → Int32 → Int32 → MS → Option (Int32 × MS)
  | 0, _, _, _ => none
  | n + 1, y1, y2, σ => (if (200 : Int32) ≤ y2 then some ((-2 : Int32), σ) else (f_X1_passHour 46 σ).bind (fun r8 => (if ((r8.1 >>> (y1 &&& 31)) &&& (1 : Int32)) = 0 then ((b_X11_stops_17  n) (y1) ((y2 + (1 : Int32))) r8.2) else some ((sI σ 46 5), r8.2))))
set_option maxHeartbeats 4000000 in
set_option maxRecDepth 20000 in
theorem c_X11_stops_17 {X : CX} {Ω : OM} (hX : CF X Ω RX11 cX11_stops 4 (some .int) rm_X11_stops) (hO : OKO Ω) (hΩ : oSH Ω = SHX)    : ∀ (n : Nat) (y1 : Int32) (y2 : Int32) (σ : MS) , GE X Ω 4 0 0 (emWI) 0 0 17 [(0, .ref 0), (1, .int y1), (2, .int y2)] [] σ (b_X11_stops_17  n y1 y2 σ)
  | 0, _, _, _ => g_none
  | n + 1, y1, y2, σ => by
    have hk17 := c_X11_stops_17 hX hO hΩ  n
    unfold b_X11_stops_17
    refine g_iload_n hX (dc_X11_stops 11 rfl) rfl 2 rfl ?_
    refine g_sipush (w := (200 : Int32)) hX (dc_X11_stops 12 rfl) (by decide) ?_
    refine g_icmp_ge (tgt := 58) hX (dc_X11_stops 13 rfl) (by decide) (fun h7 => ?_) (fun h7 => ?_)
    · refine g_bipush (w := (-2 : Int32)) hX (dc_X11_stops 32 rfl) (by decide) ?_
      exact g_iret hX (dc_X11_stops 33 rfl) rfl rfl (Nat.le_refl _) (Nat.le_refl _)
    · refine g_aload_n hX (dc_X11_stops 14 rfl) rfl 0 rfl ?_
      refine g_getF (q := 46) hX (dc_X11_stops 15 rfl) fl_X11_65 (by decide) rfl (stS hΩ 0 rfl) rfl ?_
      refine g_getI hX (dc_X11_stops 16 rfl) fl_X11_192 (by decide) rfl (stS hΩ 46 rfl) ?_
      refine g_istore_n (L' := [(3, .int (sI σ 46 5)), (0, .ref 0), (1, .int y1), (2, .int y2)]) hX (dc_X11_stops 17 rfl) rfl (by decide) rfl ?_
      refine g_aload_n hX (dc_X11_stops 18 rfl) rfl 1 rfl ?_
      refine g_getF (q := 44) hX (dc_X11_stops 19 rfl) fl_X11_58 (by decide) rfl (stS hΩ 0 rfl) rfl ?_
      refine g_aload_n hX (dc_X11_stops 20 rfl) rfl 1 rfl ?_
      refine g_getF (q := 46) hX (dc_X11_stops 21 rfl) fl_X11_65 (by decide) rfl (stS hΩ 0 rfl) rfl ?_
      refine gV_WI (As := [.ref 46]) (st := []) hX (dc_X11_stops 22 rfl) ml_X11_235 (con_X1_passHour hO hΩ 46 σ (stR hΩ 46 (by decide))) (stS hΩ 44 rfl) rfl rfl ⟨by decide, by decide⟩ ⟨rfl, rfl⟩ ⟨Nat.zero_le _, Nat.zero_le _⟩ (Nat.le_of_ble_eq_true rfl) (fun r8 _ => ?_)
      refine g_iload_n hX (dc_X11_stops 23 rfl) rfl 2 rfl ?_
      refine g_ishr hX (dc_X11_stops 24 rfl) ?_
      refine g_iconst (w := (1 : Int32)) hX (dc_X11_stops 25 rfl) (by decide) ?_
      refine g_iand hX (dc_X11_stops 26 rfl) ?_
      refine g_if_eq (tgt := 52) hX (dc_X11_stops 27 rfl) (by decide) (fun h9 => ?_) (fun h9 => ?_)
      · refine g_iinc (w := (y2 + (1 : Int32))) (L' := [(2, .int (y2 + (1 : Int32))), (3, .int (sI σ 46 5)), (0, .ref 0), (1, .int y1)]) hX (dc_X11_stops 30 rfl) 3 rfl rfl (by decide) rfl ?_
        refine g_goto (tgt := 17) hX (dc_X11_stops 31 rfl) (by decide) ?_
        exact g_sub [2, 3, 0] rfl (hk17 (y1) ((y2 + (1 : Int32))) r8.2 )
      · refine g_iload_n hX (dc_X11_stops 28 rfl) rfl 0 rfl ?_
        exact g_iret hX (dc_X11_stops 29 rfl) rfl rfl (Nat.le_refl _) (Nat.le_refl _)
def b_X11_stops_0   (x1 : Int32)  (σ : MS) : Option (Int32 × MS) := (f_X11_goes x1 σ).bind (fun r10 => (if r10 = 0 then some ((-1 : Int32), σ) else (f_X11_startTrial (-1 : Int32) σ).bind (fun r12 => (b_X11_stops_17 FU (x1) ((0 : Int32)) r12))))
set_option maxHeartbeats 4000000 in
set_option maxRecDepth 20000 in
theorem c_X11_stops_0 {X : CX} {Ω : OM} (hX : CF X Ω RX11 cX11_stops 4 (some .int) rm_X11_stops) (hO : OKO Ω) (hΩ : oSH Ω = SHX)    (x1 : Int32)  (σ : MS)  : GE X Ω 4 0 0 (emWI) 0 0 0 [(0, .ref 0), (1, .int x1)] [] σ (b_X11_stops_0  x1 σ) := by
  unfold b_X11_stops_0
  refine g_aload_n hX (dc_X11_stops 0 rfl) rfl 0 rfl ?_
  refine g_iload_n hX (dc_X11_stops 1 rfl) rfl 1 rfl ?_
  refine gV_PI (As := [.int x1]) (st := []) hX (dc_X11_stops 2 rfl) ml_X11_251 (con_X11_goes hO hΩ x1 σ) (stS hΩ 0 rfl) rfl rfl ⟨by decide, by decide⟩ ⟨rfl, rfl⟩ ⟨Nat.zero_le _, Nat.zero_le _⟩ (Nat.le_of_ble_eq_true rfl) (fun r10 _ => ?_)
  refine g_if_ne (tgt := 10) hX (dc_X11_stops 3 rfl) (by decide) (fun h11 => ?_) (fun h11 => ?_)
  · refine g_iconst (w := (-1 : Int32)) hX (dc_X11_stops 4 rfl) (by decide) ?_
    exact g_iret hX (dc_X11_stops 5 rfl) rfl rfl (Nat.le_refl _) (Nat.le_refl _)
  · refine g_aload_n hX (dc_X11_stops 6 rfl) rfl 0 rfl ?_
    refine g_iconst (w := (-1 : Int32)) hX (dc_X11_stops 7 rfl) (by decide) ?_
    refine gV_WV (As := [.int (-1 : Int32)]) (st := []) hX (dc_X11_stops 8 rfl) ml_X11_264 (con_X11_startTrial hO hΩ (-1 : Int32) σ) (stS hΩ 0 rfl) rfl rfl ⟨by decide, by decide⟩ ⟨rfl, rfl⟩ ⟨Nat.zero_le _, Nat.zero_le _⟩ (Nat.le_of_ble_eq_true rfl) (fun r12 _ => ?_)
    refine g_iconst (w := (0 : Int32)) hX (dc_X11_stops 9 rfl) (by decide) ?_
    refine g_istore_n (L' := [(2, .int (0 : Int32)), (0, .ref 0), (1, .int x1)]) hX (dc_X11_stops 10 rfl) rfl (by decide) rfl ?_
    exact g_sub [1, 2, 0] rfl (c_X11_stops_17 hX hO hΩ FU (x1) ((0 : Int32)) r12)
def f_X11_stops (x1 : Int32) (σ : MS) : Option (Int32 × MS) := b_X11_stops_0  x1 σ
theorem con_X11_stops {Ω : OM} (hO : OKO Ω) (hΩ : oSH Ω = SHX) (x1 : Int32) (σ : MS)  : Con Ω yX11_stops cX11_stops 4 (some .int) rm_X11_stops (emWI) [.ref 0, .int x1] σ (f_X11_stops x1 σ) :=
  con_of hO (by decide +kernel) (Nat.le_of_ble_eq_true rfl) rfl (fun X hX _ => c_X11_stops_0 hX hO hΩ   x1 σ )
def it_X11_save : List (Nat × Instr × Nat × Nat) := [(0, .aload_n 0, 1, 1), (1, .iload_n 1, 1, 2), (2, .invokevirtual 137, 3, 5), (5, .ifCond .eq 11, 3, 8), (8, .aload_n 0, 1, 9), (9, .iload_n 2, 1, 10), (10, .invokevirtual 128, 3, 13), (13, .ifCond .ne 5, 3, 16), (16, .iconst (-1), 1, 17), (17, .ireturn, 1, 18), (18, .aload_n 0, 1, 19), (19, .iconst (-1), 1, 20), (20, .invokevirtual 264, 3, 23), (23, .iconst 0, 1, 24), (24, .istore_n 3, 1, 25), (25, .iload_n 3, 1, 26), (26, .sipush 200, 3, 29), (29, .if_icmp .ge 53, 3, 32), (32, .aload_n 0, 1, 33), (33, .getfield 65, 3, 36), (36, .getfield 143, 3, 39), (39, .iload_n 1, 1, 40), (40, .iaload, 1, 41), (41, .aload_n 0, 1, 42), (42, .getfield 41, 3, 45), (45, .getfield 51, 3, 48), (48, .getfield 131, 3, 51), (51, .iload_n 2, 1, 52), (52, .iaload, 1, 53), (53, .if_icmp .lt 11, 3, 56), (56, .aload_n 0, 1, 57), (57, .getfield 65, 3, 60), (60, .getfield 192, 3, 63), (63, .ireturn, 1, 64), (64, .aload_n 0, 1, 65), (65, .getfield 58, 3, 68), (68, .aload_n 0, 1, 69), (69, .getfield 65, 3, 72), (72, .invokevirtual 235, 3, 75), (75, .pop, 1, 76), (76, .iinc 3 1, 3, 79), (79, .goto (-54), 3, 82), (82, .bipush (-2), 2, 84), (84, .ireturn, 1, 85)]
theorem id_X11_save : ∀ q ∈ it_X11_save, decode cX11_save q.1 = .ok (q.2.1, q.2.2.1) ∧ q.1 + q.2.2.1 = q.2.2.2 := by decide +kernel
theorem dc_X11_save {pc : Nat} {i : Instr} {n pc' : Nat} (j : Nat) (h : it_X11_save[j]? = some (pc, i, n, pc')) : Dc cX11_save pc i n pc' := dc_of id_X11_save j h
abbrev rm_X11_save : Room := { frames := 6, cells := 0, slots := 0, locals := 148 }
def b_X11_save_25   : Nat → Int32 → Int32 → Int32 → MS → Option (Int32 × MS)
  | 0, _, _, _, _ => none
  | n + 1, y1, y2, y3, σ => (if (200 : Int32) ≤ y3 then some ((-2 : Int32), σ) else chk (inb y1 4) (chk (inb y2 5) ((if (sI σ 49 (ix y1)) < (sI σ 24 (ix y2)) then (f_X1_passHour 46 σ).bind (fun r15 => ((b_X11_save_25  n) (y1) (y2) ((y3 + (1 : Int32))) r15.2)) else some ((sI σ 46 5), σ)))))
set_option maxHeartbeats 4000000 in
set_option maxRecDepth 20000 in
theorem c_X11_save_25 {X : CX} {Ω : OM} (hX : CF X Ω RX11 cX11_save 4 (some .int) rm_X11_save) (hO : OKO Ω) (hΩ : oSH Ω = SHX)    : ∀ (n : Nat) (y1 : Int32) (y2 : Int32) (y3 : Int32) (σ : MS) , GE X Ω 4 0 0 (emWI) 0 0 25 [(0, .ref 0), (1, .int y1), (2, .int y2), (3, .int y3)] [] σ (b_X11_save_25  n y1 y2 y3 σ)
  | 0, _, _, _, _ => g_none
  | n + 1, y1, y2, y3, σ => by
    have hk25 := c_X11_save_25 hX hO hΩ  n
    unfold b_X11_save_25
    refine g_iload_n hX (dc_X11_save 15 rfl) rfl 3 rfl ?_
    refine g_sipush (w := (200 : Int32)) hX (dc_X11_save 16 rfl) (by decide) ?_
    refine g_icmp_ge (tgt := 82) hX (dc_X11_save 17 rfl) (by decide) (fun h11 => ?_) (fun h11 => ?_)
    · refine g_bipush (w := (-2 : Int32)) hX (dc_X11_save 42 rfl) (by decide) ?_
      exact g_iret hX (dc_X11_save 43 rfl) rfl rfl (Nat.le_refl _) (Nat.le_refl _)
    · refine g_aload_n hX (dc_X11_save 18 rfl) rfl 0 rfl ?_
      refine g_getF (q := 46) hX (dc_X11_save 19 rfl) fl_X11_65 (by decide) rfl (stS hΩ 0 rfl) rfl ?_
      refine g_getF (q := 49) hX (dc_X11_save 20 rfl) fl_X11_143 (by decide) rfl (stS hΩ 46 rfl) rfl ?_
      refine g_iload_n hX (dc_X11_save 21 rfl) rfl 1 rfl ?_
      refine g_chk (fun hc12 => ?_)
      refine g_iald hX (dc_X11_save 22 rfl) (stS hΩ 49 rfl) hc12 rfl ?_
      refine g_aload_n hX (dc_X11_save 23 rfl) rfl 0 rfl ?_
      refine g_getF (q := 22) hX (dc_X11_save 24 rfl) fl_X11_41 (by decide) rfl (stS hΩ 0 rfl) rfl ?_
      refine g_getF (q := 23) hX (dc_X11_save 25 rfl) fl_X11_51 (by decide) rfl (stS hΩ 22 rfl) rfl ?_
      refine g_getF (q := 24) hX (dc_X11_save 26 rfl) fl_X11_131 (by decide) rfl (stS hΩ 23 rfl) rfl ?_
      refine g_iload_n hX (dc_X11_save 27 rfl) rfl 2 rfl ?_
      refine g_chk (fun hc13 => ?_)
      refine g_iald hX (dc_X11_save 28 rfl) (stS hΩ 24 rfl) hc13 rfl ?_
      refine g_icmp_lt (tgt := 64) hX (dc_X11_save 29 rfl) (by decide) (fun h14 => ?_) (fun h14 => ?_)
      · refine g_aload_n hX (dc_X11_save 34 rfl) rfl 0 rfl ?_
        refine g_getF (q := 44) hX (dc_X11_save 35 rfl) fl_X11_58 (by decide) rfl (stS hΩ 0 rfl) rfl ?_
        refine g_aload_n hX (dc_X11_save 36 rfl) rfl 0 rfl ?_
        refine g_getF (q := 46) hX (dc_X11_save 37 rfl) fl_X11_65 (by decide) rfl (stS hΩ 0 rfl) rfl ?_
        refine gV_WI (As := [.ref 46]) (st := []) hX (dc_X11_save 38 rfl) ml_X11_235 (con_X1_passHour hO hΩ 46 σ (stR hΩ 46 (by decide))) (stS hΩ 44 rfl) rfl rfl ⟨by decide, by decide⟩ ⟨rfl, rfl⟩ ⟨Nat.zero_le _, Nat.zero_le _⟩ (Nat.le_of_ble_eq_true rfl) (fun r15 _ => ?_)
        refine g_pop hX (dc_X11_save 39 rfl) rfl ?_
        refine g_iinc (w := (y3 + (1 : Int32))) (L' := [(3, .int (y3 + (1 : Int32))), (0, .ref 0), (1, .int y1), (2, .int y2)]) hX (dc_X11_save 40 rfl) 3 rfl rfl (by decide) rfl ?_
        refine g_goto (tgt := 25) hX (dc_X11_save 41 rfl) (by decide) ?_
        exact g_sub [1, 2, 3, 0] rfl (hk25 (y1) (y2) ((y3 + (1 : Int32))) r15.2 )
      · refine g_aload_n hX (dc_X11_save 30 rfl) rfl 0 rfl ?_
        refine g_getF (q := 46) hX (dc_X11_save 31 rfl) fl_X11_65 (by decide) rfl (stS hΩ 0 rfl) rfl ?_
        refine g_getI hX (dc_X11_save 32 rfl) fl_X11_192 (by decide) rfl (stS hΩ 46 rfl) ?_
        exact g_iret hX (dc_X11_save 33 rfl) rfl rfl (Nat.le_refl _) (Nat.le_refl _)
def b_X11_save_16     (σ : MS) : Option (Int32 × MS) := some ((-1 : Int32), σ)
set_option maxHeartbeats 4000000 in
set_option maxRecDepth 20000 in
theorem c_X11_save_16 {X : CX} {Ω : OM} (hX : CF X Ω RX11 cX11_save 4 (some .int) rm_X11_save) (hO : OKO Ω) (hΩ : oSH Ω = SHX)      (σ : MS)  : GE X Ω 4 0 0 (emWI) 0 0 16 [] [] σ (b_X11_save_16  σ) := by
  unfold b_X11_save_16
  refine g_iconst (w := (-1 : Int32)) hX (dc_X11_save 8 rfl) (by decide) ?_
  exact g_iret hX (dc_X11_save 9 rfl) rfl rfl (Nat.le_refl _) (Nat.le_refl _)
def b_X11_save_0   (x1 : Int32) (x2 : Int32)  (σ : MS) : Option (Int32 × MS) := (f_X11_isPerson x1 σ).bind (fun r16 => (if r16 = 0 then (b_X11_save_16 σ) else (f_X11_isKind x2 σ).bind (fun r18 => (if r18 = 0 then (b_X11_save_16 σ) else (f_X11_startTrial (-1 : Int32) σ).bind (fun r20 => (b_X11_save_25 FU (x1) (x2) ((0 : Int32)) r20))))))
set_option maxHeartbeats 4000000 in
set_option maxRecDepth 20000 in
theorem c_X11_save_0 {X : CX} {Ω : OM} (hX : CF X Ω RX11 cX11_save 4 (some .int) rm_X11_save) (hO : OKO Ω) (hΩ : oSH Ω = SHX)    (x1 : Int32) (x2 : Int32)  (σ : MS)  : GE X Ω 4 0 0 (emWI) 0 0 0 [(0, .ref 0), (1, .int x1), (2, .int x2)] [] σ (b_X11_save_0  x1 x2 σ) := by
  unfold b_X11_save_0
  refine g_aload_n hX (dc_X11_save 0 rfl) rfl 0 rfl ?_
  refine g_iload_n hX (dc_X11_save 1 rfl) rfl 1 rfl ?_
  refine gV_PI (As := [.int x1]) (st := []) hX (dc_X11_save 2 rfl) ml_X11_137 (con_X11_isPerson hO hΩ x1 σ) (stS hΩ 0 rfl) rfl rfl ⟨by decide, by decide⟩ ⟨rfl, rfl⟩ ⟨Nat.zero_le _, Nat.zero_le _⟩ (Nat.le_of_ble_eq_true rfl) (fun r16 _ => ?_)
  refine g_if_eq (tgt := 16) hX (dc_X11_save 3 rfl) (by decide) (fun h17 => ?_) (fun h17 => ?_)
  · exact g_sub [] rfl (c_X11_save_16 hX hO hΩ σ)
  · refine g_aload_n hX (dc_X11_save 4 rfl) rfl 0 rfl ?_
    refine g_iload_n hX (dc_X11_save 5 rfl) rfl 2 rfl ?_
    refine gV_PI (As := [.int x2]) (st := []) hX (dc_X11_save 6 rfl) ml_X11_128 (con_X11_isKind hO hΩ x2 σ) (stS hΩ 0 rfl) rfl rfl ⟨by decide, by decide⟩ ⟨rfl, rfl⟩ ⟨Nat.zero_le _, Nat.zero_le _⟩ (Nat.le_of_ble_eq_true rfl) (fun r18 _ => ?_)
    refine g_if_ne (tgt := 18) hX (dc_X11_save 7 rfl) (by decide) (fun h19 => ?_) (fun h19 => ?_)
    · exact g_sub [] rfl (c_X11_save_16 hX hO hΩ σ)
    · refine g_aload_n hX (dc_X11_save 10 rfl) rfl 0 rfl ?_
      refine g_iconst (w := (-1 : Int32)) hX (dc_X11_save 11 rfl) (by decide) ?_
      refine gV_WV (As := [.int (-1 : Int32)]) (st := []) hX (dc_X11_save 12 rfl) ml_X11_264 (con_X11_startTrial hO hΩ (-1 : Int32) σ) (stS hΩ 0 rfl) rfl rfl ⟨by decide, by decide⟩ ⟨rfl, rfl⟩ ⟨Nat.zero_le _, Nat.zero_le _⟩ (Nat.le_of_ble_eq_true rfl) (fun r20 _ => ?_)
      refine g_iconst (w := (0 : Int32)) hX (dc_X11_save 13 rfl) (by decide) ?_
      refine g_istore_n (L' := [(3, .int (0 : Int32)), (0, .ref 0), (1, .int x1), (2, .int x2)]) hX (dc_X11_save 14 rfl) rfl (by decide) rfl ?_
      exact g_sub [1, 2, 3, 0] rfl (c_X11_save_25 hX hO hΩ FU (x1) (x2) ((0 : Int32)) r20)
def f_X11_save (x1 : Int32) (x2 : Int32) (σ : MS) : Option (Int32 × MS) := b_X11_save_0  x1 x2 σ
theorem con_X11_save {Ω : OM} (hO : OKO Ω) (hΩ : oSH Ω = SHX) (x1 : Int32) (x2 : Int32) (σ : MS)  : Con Ω yX11_save cX11_save 4 (some .int) rm_X11_save (emWI) [.ref 0, .int x1, .int x2] σ (f_X11_save x1 x2 σ) :=
  con_of hO (by decide +kernel) (Nat.le_of_ble_eq_true rfl) rfl (fun X hX _ => c_X11_save_0 hX hO hΩ   x1 x2 σ )
def it_X11_isPlan : List (Nat × Instr × Nat × Nat) := [(0, .iload_n 0, 1, 1), (1, .iconst 1, 1, 2), (2, .if_icmp .lt 13, 3, 5), (5, .iload_n 0, 1, 6), (6, .bipush 48, 2, 8), (8, .if_icmp .gt 7, 3, 11), (11, .iconst 1, 1, 12), (12, .goto 4, 3, 15), (15, .iconst 0, 1, 16), (16, .ireturn, 1, 17)]
theorem id_X11_isPlan : ∀ q ∈ it_X11_isPlan, decode cX11_isPlan q.1 = .ok (q.2.1, q.2.2.1) ∧ q.1 + q.2.2.1 = q.2.2.2 := by decide +kernel
theorem dc_X11_isPlan {pc : Nat} {i : Instr} {n pc' : Nat} (j : Nat) (h : it_X11_isPlan[j]? = some (pc, i, n, pc')) : Dc cX11_isPlan pc i n pc' := dc_of id_X11_isPlan j h
abbrev rm_X11_isPlan : Room := { frames := 0, cells := 0, slots := 0, locals := 0 }
def b_X11_isPlan_16    (s0 : Int32)  : Option (Int32) := chk (s0 = 0 ∨ s0 = 1) (some s0)
set_option maxHeartbeats 4000000 in
set_option maxRecDepth 20000 in
theorem c_X11_isPlan_16 {X : CX} {Ω : OM} (hX : CF X Ω RX11 cX11_isPlan 1 (some .boolean) rm_X11_isPlan) (hO : OKO Ω) (hΩ : oSH Ω = SHX)   (σ : MS)   (s0 : Int32)   : GE X Ω 1 0 0 (emPI σ) 0 0 16 [] [.int s0] σ (b_X11_isPlan_16  s0) := by
  unfold b_X11_isPlan_16
  refine g_chk (fun hc4 => ?_)
  exact g_iret hX (dc_X11_isPlan 9 rfl) (nz_bool hc4).1 rfl (Nat.le_refl _) (Nat.le_refl _)
def b_X11_isPlan_15      : Option (Int32) := (b_X11_isPlan_16 ((0 : Int32)))
set_option maxHeartbeats 4000000 in
set_option maxRecDepth 20000 in
theorem c_X11_isPlan_15 {X : CX} {Ω : OM} (hX : CF X Ω RX11 cX11_isPlan 1 (some .boolean) rm_X11_isPlan) (hO : OKO Ω) (hΩ : oSH Ω = SHX)   (σ : MS)      : GE X Ω 1 0 0 (emPI σ) 0 0 15 [] [] σ (b_X11_isPlan_15  ) := by
  unfold b_X11_isPlan_15
  refine g_iconst (w := (0 : Int32)) hX (dc_X11_isPlan 8 rfl) (by decide) ?_
  exact g_sub [] rfl (c_X11_isPlan_16 hX hO hΩ σ ((0 : Int32)))
def b_X11_isPlan_0   (x0 : Int32)   : Option (Int32) := (if x0 < (1 : Int32) then (b_X11_isPlan_15) else (if (48 : Int32) < x0 then (b_X11_isPlan_15) else (b_X11_isPlan_16 ((1 : Int32)))))
set_option maxHeartbeats 4000000 in
set_option maxRecDepth 20000 in
theorem c_X11_isPlan_0 {X : CX} {Ω : OM} (hX : CF X Ω RX11 cX11_isPlan 1 (some .boolean) rm_X11_isPlan) (hO : OKO Ω) (hΩ : oSH Ω = SHX)   (σ : MS)  (x0 : Int32)    : GE X Ω 1 0 0 (emPI σ) 0 0 0 [(0, .int x0)] [] σ (b_X11_isPlan_0  x0) := by
  unfold b_X11_isPlan_0
  refine g_iload_n hX (dc_X11_isPlan 0 rfl) rfl 0 rfl ?_
  refine g_iconst (w := (1 : Int32)) hX (dc_X11_isPlan 1 rfl) (by decide) ?_
  refine g_icmp_lt (tgt := 15) hX (dc_X11_isPlan 2 rfl) (by decide) (fun h5 => ?_) (fun h5 => ?_)
  · exact g_sub [] rfl (c_X11_isPlan_15 hX hO hΩ σ)
  · refine g_iload_n hX (dc_X11_isPlan 3 rfl) rfl 0 rfl ?_
    refine g_bipush (w := (48 : Int32)) hX (dc_X11_isPlan 4 rfl) (by decide) ?_
    refine g_icmp_gt (tgt := 15) hX (dc_X11_isPlan 5 rfl) (by decide) (fun h6 => ?_) (fun h6 => ?_)
    · exact g_sub [] rfl (c_X11_isPlan_15 hX hO hΩ σ)
    · refine g_iconst (w := (1 : Int32)) hX (dc_X11_isPlan 6 rfl) (by decide) ?_
      refine g_goto (tgt := 16) hX (dc_X11_isPlan 7 rfl) (by decide) ?_
      exact g_sub [] rfl (c_X11_isPlan_16 hX hO hΩ σ ((1 : Int32)))
def f_X11_isPlan (x0 : Int32)  : Option (Int32) := b_X11_isPlan_0  x0 
theorem con_X11_isPlan {Ω : OM} (hO : OKO Ω) (hΩ : oSH Ω = SHX) (x0 : Int32) (σ : MS)  : Con Ω yX11_isPlan cX11_isPlan 1 (some .boolean) rm_X11_isPlan (emPI σ) [.int x0] σ (f_X11_isPlan x0 ) :=
  con_of hO (by decide +kernel) (Nat.le_of_ble_eq_true rfl) rfl (fun X hX _ => c_X11_isPlan_0 hX hO hΩ   σ x0)
def it_X11_help : List (Nat × Instr × Nat × Nat) := [(0, .aload_n 0, 1, 1), (1, .getfield 41, 3, 4), (4, .getfield 51, 3, 7), (7, .getfield 220, 3, 10), (10, .ifCond .eq 19, 3, 13), (13, .iload_n 1, 1, 14), (14, .invokestatic 270, 3, 17), (17, .ifCond .eq 12, 3, 20), (20, .iload_n 2, 1, 21), (21, .ifCond .lt 8, 3, 24), (24, .iload_n 2, 1, 25), (25, .iconst 1, 1, 26), (26, .if_icmp .le 6, 3, 29), (29, .bipush (-2), 2, 31), (31, .ireturn, 1, 32), (32, .iconst (-1), 1, 33), (33, .istore_n 3, 1, 34), (34, .iconst 0, 1, 35), (35, .istore 4, 2, 37), (37, .iconst (-1), 1, 38), (38, .istore 5, 2, 40), (40, .iload 5, 2, 42), (42, .aload_n 0, 1, 43), (43, .getfield 41, 3, 46), (46, .getfield 51, 3, 49), (49, .getfield 189, 3, 52), (52, .if_icmp .ge 42, 3, 55), (55, .aload_n 0, 1, 56), (56, .iload 5, 2, 58), (58, .invokevirtual 264, 3, 61), (61, .aload_n 0, 1, 62), (62, .iload_n 1, 1, 63), (63, .invokevirtual 267, 3, 66), (66, .istore 6, 2, 68), (68, .iload 5, 2, 70), (70, .iconst (-1), 1, 71), (71, .if_icmp .eq 10, 3, 74), (74, .iload 6, 2, 76), (76, .iload 4, 2, 78), (78, .if_icmp .ge 10, 3, 81), (81, .iload 5, 2, 83), (83, .istore_n 3, 1, 84), (84, .iload 6, 2, 86), (86, .istore 4, 2, 88), (88, .iinc 5 1, 3, 91), (91, .goto (-51), 3, 94), (94, .iload_n 2, 1, 95), (95, .ifCond .ne 7, 3, 98), (98, .iload_n 3, 1, 99), (99, .goto 5, 3, 102), (102, .iload 4, 2, 104), (104, .ireturn, 1, 105)]
theorem id_X11_help : ∀ q ∈ it_X11_help, decode cX11_help q.1 = .ok (q.2.1, q.2.2.1) ∧ q.1 + q.2.2.1 = q.2.2.2 := by decide +kernel
theorem dc_X11_help {pc : Nat} {i : Instr} {n pc' : Nat} (j : Nat) (h : it_X11_help[j]? = some (pc, i, n, pc')) : Dc cX11_help pc i n pc' := dc_of id_X11_help j h
abbrev rm_X11_help : Room := { frames := 7, cells := 0, slots := 0, locals := 171 }
def b_X11_help_104    (s0 : Int32) (σ : MS) : Option (Int32 × MS) := some (s0, σ)
set_option maxHeartbeats 4000000 in
set_option maxRecDepth 20000 in
theorem c_X11_help_104 {X : CX} {Ω : OM} (hX : CF X Ω RX11 cX11_help 7 (some .int) rm_X11_help) (hO : OKO Ω) (hΩ : oSH Ω = SHX)     (s0 : Int32) (σ : MS)  : GE X Ω 7 0 0 (emWI) 0 0 104 [] [.int s0] σ (b_X11_help_104  s0 σ) := by
  unfold b_X11_help_104
  exact g_iret hX (dc_X11_help 51 rfl) rfl rfl (Nat.le_refl _) (Nat.le_refl _)
def b_X11_help_88  (k40 : Int32 → Int32 → Int32 → Int32 → Int32 → MS → Option (Int32 × MS))  (y1 : Int32) (y2 : Int32) (y3 : Int32) (y4 : Int32) (y5 : Int32) (σ : MS) : Option (Int32 × MS) := (k40 (y1) (y2) (y3) (y4) ((y5 + (1 : Int32))) σ)
set_option maxHeartbeats 4000000 in
set_option maxRecDepth 20000 in
theorem c_X11_help_88 {X : CX} {Ω : OM} (hX : CF X Ω RX11 cX11_help 7 (some .int) rm_X11_help) (hO : OKO Ω) (hΩ : oSH Ω = SHX)   (k40 : Int32 → Int32 → Int32 → Int32 → Int32 → MS → Option (Int32 × MS)) (hk40 : ∀ (y1 : Int32) (y2 : Int32) (y3 : Int32) (y4 : Int32) (y5 : Int32) (σ : MS) , GE X Ω 7 0 0 (emWI) 0 0 40 [(0, .ref 0), (1, .int y1), (2, .int y2), (3, .int y3), (4, .int y4), (5, .int y5)] [] σ (k40 y1 y2 y3 y4 y5 σ))  (y1 : Int32) (y2 : Int32) (y3 : Int32) (y4 : Int32) (y5 : Int32) (σ : MS)  : GE X Ω 7 0 0 (emWI) 0 0 88 [(0, .ref 0), (1, .int y1), (2, .int y2), (3, .int y3), (4, .int y4), (5, .int y5)] [] σ (b_X11_help_88  k40 y1 y2 y3 y4 y5 σ) := by
  unfold b_X11_help_88
  refine g_iinc (w := (y5 + (1 : Int32))) (L' := [(5, .int (y5 + (1 : Int32))), (0, .ref 0), (1, .int y1), (2, .int y2), (3, .int y3), (4, .int y4)]) hX (dc_X11_help 44 rfl) 5 rfl rfl (by decide) rfl ?_
  refine g_goto (tgt := 40) hX (dc_X11_help 45 rfl) (by decide) ?_
  exact g_sub [1, 2, 3, 4, 5, 0] rfl (hk40 (y1) (y2) (y3) (y4) ((y5 + (1 : Int32))) σ )
def b_X11_help_81  (k40 : Int32 → Int32 → Int32 → Int32 → Int32 → MS → Option (Int32 × MS))  (y1 : Int32) (y2 : Int32) (y5 : Int32) (y6 : Int32) (σ : MS) : Option (Int32 × MS) := (b_X11_help_88 k40 (y1) (y2) (y5) (y6) (y5) σ)
set_option maxHeartbeats 4000000 in
set_option maxRecDepth 20000 in
theorem c_X11_help_81 {X : CX} {Ω : OM} (hX : CF X Ω RX11 cX11_help 7 (some .int) rm_X11_help) (hO : OKO Ω) (hΩ : oSH Ω = SHX)   (k40 : Int32 → Int32 → Int32 → Int32 → Int32 → MS → Option (Int32 × MS)) (hk40 : ∀ (y1 : Int32) (y2 : Int32) (y3 : Int32) (y4 : Int32) (y5 : Int32) (σ : MS) , GE X Ω 7 0 0 (emWI) 0 0 40 [(0, .ref 0), (1, .int y1), (2, .int y2), (3, .int y3), (4, .int y4), (5, .int y5)] [] σ (k40 y1 y2 y3 y4 y5 σ))  (y1 : Int32) (y2 : Int32) (y5 : Int32) (y6 : Int32) (σ : MS)  : GE X Ω 7 0 0 (emWI) 0 0 81 [(0, .ref 0), (1, .int y1), (2, .int y2), (5, .int y5), (6, .int y6)] [] σ (b_X11_help_81  k40 y1 y2 y5 y6 σ) := by
  unfold b_X11_help_81
  refine g_iload hX (dc_X11_help 40 rfl) 3 rfl ?_
  refine g_istore_n (L' := [(3, .int y5), (0, .ref 0), (1, .int y1), (2, .int y2), (5, .int y5), (6, .int y6)]) hX (dc_X11_help 41 rfl) rfl (by decide) rfl ?_
  refine g_iload hX (dc_X11_help 42 rfl) 5 rfl ?_
  refine g_istore (L' := [(4, .int y6), (3, .int y5), (0, .ref 0), (1, .int y1), (2, .int y2), (5, .int y5), (6, .int y6)]) hX (dc_X11_help 43 rfl) (by decide) rfl ?_
  exact g_sub [2, 3, 4, 1, 0, 5] rfl (c_X11_help_88 hX hO hΩ _ hk40 (y1) (y2) (y5) (y6) (y5) σ)
def b_X11_help_40   : Nat → Int32 → Int32 → Int32 → Int32 → Int32 → MS → Option (Int32 × MS)
  | 0, _, _, _, _, _, _ => none
  | n + 1, y1, y2, y3, y4, y5, σ => (if (sI σ 23 3) ≤ y5 then (if y2 = 0 then (b_X11_help_104 (y3) σ) else (b_X11_help_104 (y4) σ)) else (f_X11_startTrial y5 σ).bind (fun r14 => (f_X11_stopsInTrial y1 r14).bind (fun r15 => (if y5 = (-1 : Int32) then (b_X11_help_81 (b_X11_help_40  n) (y1) (y2) (y5) (r15.1) r15.2) else (if y4 ≤ r15.1 then (b_X11_help_88 (b_X11_help_40  n) (y1) (y2) (y3) (y4) (y5) r15.2) else (b_X11_help_81 (b_X11_help_40  n) (y1) (y2) (y5) (r15.1) r15.2))))))
set_option maxHeartbeats 4000000 in
set_option maxRecDepth 20000 in
theorem c_X11_help_40 {X : CX} {Ω : OM} (hX : CF X Ω RX11 cX11_help 7 (some .int) rm_X11_help) (hO : OKO Ω) (hΩ : oSH Ω = SHX)    : ∀ (n : Nat) (y1 : Int32) (y2 : Int32) (y3 : Int32) (y4 : Int32) (y5 : Int32) (σ : MS) , GE X Ω 7 0 0 (emWI) 0 0 40 [(0, .ref 0), (1, .int y1), (2, .int y2), (3, .int y3), (4, .int y4), (5, .int y5)] [] σ (b_X11_help_40  n y1 y2 y3 y4 y5 σ)
  | 0, _, _, _, _, _, _ => g_none
  | n + 1, y1, y2, y3, y4, y5, σ => by
    have hk40 := c_X11_help_40 hX hO hΩ  n
    unfold b_X11_help_40
    refine g_iload hX (dc_X11_help 21 rfl) 5 rfl ?_
    refine g_aload_n hX (dc_X11_help 22 rfl) rfl 0 rfl ?_
    refine g_getF (q := 22) hX (dc_X11_help 23 rfl) fl_X11_41 (by decide) rfl (stS hΩ 0 rfl) rfl ?_
    refine g_getF (q := 23) hX (dc_X11_help 24 rfl) fl_X11_51 (by decide) rfl (stS hΩ 22 rfl) rfl ?_
    refine g_getI hX (dc_X11_help 25 rfl) fl_X11_189 (by decide) rfl (stS hΩ 23 rfl) ?_
    refine g_icmp_ge (tgt := 94) hX (dc_X11_help 26 rfl) (by decide) (fun h12 => ?_) (fun h12 => ?_)
    · refine g_iload_n hX (dc_X11_help 46 rfl) rfl 2 rfl ?_
      refine g_if_ne (tgt := 102) hX (dc_X11_help 47 rfl) (by decide) (fun h13 => ?_) (fun h13 => ?_)
      · refine g_iload_n hX (dc_X11_help 48 rfl) rfl 3 rfl ?_
        refine g_goto (tgt := 104) hX (dc_X11_help 49 rfl) (by decide) ?_
        exact g_sub [] rfl (c_X11_help_104 hX hO hΩ (y3) σ)
      · refine g_iload hX (dc_X11_help 50 rfl) 4 rfl ?_
        exact g_sub [] rfl (c_X11_help_104 hX hO hΩ (y4) σ)
    · refine g_aload_n hX (dc_X11_help 27 rfl) rfl 0 rfl ?_
      refine g_iload hX (dc_X11_help 28 rfl) 5 rfl ?_
      refine gV_WV (As := [.int y5]) (st := []) hX (dc_X11_help 29 rfl) ml_X11_264 (con_X11_startTrial hO hΩ y5 σ) (stS hΩ 0 rfl) rfl rfl ⟨by decide, by decide⟩ ⟨rfl, rfl⟩ ⟨Nat.zero_le _, Nat.zero_le _⟩ (Nat.le_of_ble_eq_true rfl) (fun r14 _ => ?_)
      refine g_aload_n hX (dc_X11_help 30 rfl) rfl 0 rfl ?_
      refine g_iload_n hX (dc_X11_help 31 rfl) rfl 1 rfl ?_
      refine gV_WI (As := [.int y1]) (st := []) hX (dc_X11_help 32 rfl) ml_X11_267 (con_X11_stopsInTrial hO hΩ y1 r14) (stS hΩ 0 rfl) rfl rfl ⟨by decide, by decide⟩ ⟨rfl, rfl⟩ ⟨Nat.zero_le _, Nat.zero_le _⟩ (Nat.le_of_ble_eq_true rfl) (fun r15 _ => ?_)
      refine g_istore (L' := [(6, .int r15.1), (0, .ref 0), (1, .int y1), (2, .int y2), (3, .int y3), (4, .int y4), (5, .int y5)]) hX (dc_X11_help 33 rfl) (by decide) rfl ?_
      refine g_iload hX (dc_X11_help 34 rfl) 6 rfl ?_
      refine g_iconst (w := (-1 : Int32)) hX (dc_X11_help 35 rfl) (by decide) ?_
      refine g_icmp_eq (tgt := 81) hX (dc_X11_help 36 rfl) (by decide) (fun h16 => ?_) (fun h16 => ?_)
      · exact g_sub [1, 2, 3, 6, 0] rfl (c_X11_help_81 hX hO hΩ _ hk40 (y1) (y2) (y5) (r15.1) r15.2)
      · refine g_iload hX (dc_X11_help 37 rfl) 0 rfl ?_
        refine g_iload hX (dc_X11_help 38 rfl) 5 rfl ?_
        refine g_icmp_ge (tgt := 88) hX (dc_X11_help 39 rfl) (by decide) (fun h17 => ?_) (fun h17 => ?_)
        · exact g_sub [1, 2, 3, 4, 5, 6] rfl (c_X11_help_88 hX hO hΩ _ hk40 (y1) (y2) (y3) (y4) (y5) r15.2)
        · exact g_sub [1, 2, 3, 6, 0] rfl (c_X11_help_81 hX hO hΩ _ hk40 (y1) (y2) (y5) (r15.1) r15.2)
def b_X11_help_29     (σ : MS) : Option (Int32 × MS) := some ((-2 : Int32), σ)
set_option maxHeartbeats 4000000 in
set_option maxRecDepth 20000 in
theorem c_X11_help_29 {X : CX} {Ω : OM} (hX : CF X Ω RX11 cX11_help 7 (some .int) rm_X11_help) (hO : OKO Ω) (hΩ : oSH Ω = SHX)      (σ : MS)  : GE X Ω 7 0 0 (emWI) 0 0 29 [] [] σ (b_X11_help_29  σ) := by
  unfold b_X11_help_29
  refine g_bipush (w := (-2 : Int32)) hX (dc_X11_help 13 rfl) (by decide) ?_
  exact g_iret hX (dc_X11_help 14 rfl) rfl rfl (Nat.le_refl _) (Nat.le_refl _)
def b_X11_help_0   (x1 : Int32) (x2 : Int32)  (σ : MS) : Option (Int32 × MS) := (if (sI σ 23 0) = 0 then (b_X11_help_29 σ) else (f_X11_isPlan x1).bind (fun r19 => (if r19 = 0 then (b_X11_help_29 σ) else (if x2 < 0 then (b_X11_help_29 σ) else (if x2 ≤ (1 : Int32) then (b_X11_help_40 FU (x1) (x2) ((-1 : Int32)) ((0 : Int32)) ((-1 : Int32)) σ) else (b_X11_help_29 σ))))))
set_option maxHeartbeats 4000000 in
set_option maxRecDepth 20000 in
theorem c_X11_help_0 {X : CX} {Ω : OM} (hX : CF X Ω RX11 cX11_help 7 (some .int) rm_X11_help) (hO : OKO Ω) (hΩ : oSH Ω = SHX)    (x1 : Int32) (x2 : Int32)  (σ : MS)  : GE X Ω 7 0 0 (emWI) 0 0 0 [(0, .ref 0), (1, .int x1), (2, .int x2)] [] σ (b_X11_help_0  x1 x2 σ) := by
  unfold b_X11_help_0
  refine g_aload_n hX (dc_X11_help 0 rfl) rfl 0 rfl ?_
  refine g_getF (q := 22) hX (dc_X11_help 1 rfl) fl_X11_41 (by decide) rfl (stS hΩ 0 rfl) rfl ?_
  refine g_getF (q := 23) hX (dc_X11_help 2 rfl) fl_X11_51 (by decide) rfl (stS hΩ 22 rfl) rfl ?_
  refine g_getI hX (dc_X11_help 3 rfl) fl_X11_220 (by decide) rfl (stS hΩ 23 rfl) ?_
  refine g_if_eq (tgt := 29) hX (dc_X11_help 4 rfl) (by decide) (fun h18 => ?_) (fun h18 => ?_)
  · exact g_sub [] rfl (c_X11_help_29 hX hO hΩ σ)
  · refine g_iload_n hX (dc_X11_help 5 rfl) rfl 1 rfl ?_
    refine gS_PI (As := [.int x1]) (st := []) hX (dc_X11_help 6 rfl) ml_X11_270 (con_X11_isPlan hO hΩ x1 σ) rfl rfl ⟨by decide, by decide⟩ ⟨rfl, rfl⟩ ⟨Nat.zero_le _, Nat.zero_le _⟩ (Nat.le_of_ble_eq_true rfl) (fun r19 _ => ?_)
    refine g_if_eq (tgt := 29) hX (dc_X11_help 7 rfl) (by decide) (fun h20 => ?_) (fun h20 => ?_)
    · exact g_sub [] rfl (c_X11_help_29 hX hO hΩ σ)
    · refine g_iload_n hX (dc_X11_help 8 rfl) rfl 2 rfl ?_
      refine g_if_lt (tgt := 29) hX (dc_X11_help 9 rfl) (by decide) (fun h21 => ?_) (fun h21 => ?_)
      · exact g_sub [] rfl (c_X11_help_29 hX hO hΩ σ)
      · refine g_iload_n hX (dc_X11_help 10 rfl) rfl 2 rfl ?_
        refine g_iconst (w := (1 : Int32)) hX (dc_X11_help 11 rfl) (by decide) ?_
        refine g_icmp_le (tgt := 32) hX (dc_X11_help 12 rfl) (by decide) (fun h22 => ?_) (fun h22 => ?_)
        · refine g_iconst (w := (-1 : Int32)) hX (dc_X11_help 15 rfl) (by decide) ?_
          refine g_istore_n (L' := [(3, .int (-1 : Int32)), (0, .ref 0), (1, .int x1), (2, .int x2)]) hX (dc_X11_help 16 rfl) rfl (by decide) rfl ?_
          refine g_iconst (w := (0 : Int32)) hX (dc_X11_help 17 rfl) (by decide) ?_
          refine g_istore (L' := [(4, .int (0 : Int32)), (3, .int (-1 : Int32)), (0, .ref 0), (1, .int x1), (2, .int x2)]) hX (dc_X11_help 18 rfl) (by decide) rfl ?_
          refine g_iconst (w := (-1 : Int32)) hX (dc_X11_help 19 rfl) (by decide) ?_
          refine g_istore (L' := [(5, .int (-1 : Int32)), (4, .int (0 : Int32)), (3, .int (-1 : Int32)), (0, .ref 0), (1, .int x1), (2, .int x2)]) hX (dc_X11_help 20 rfl) (by decide) rfl ?_
          exact g_sub [3, 4, 5, 2, 1, 0] rfl (c_X11_help_40 hX hO hΩ FU (x1) (x2) ((-1 : Int32)) ((0 : Int32)) ((-1 : Int32)) σ)
        · exact g_sub [] rfl (c_X11_help_29 hX hO hΩ σ)
def f_X11_help (x1 : Int32) (x2 : Int32) (σ : MS) : Option (Int32 × MS) := b_X11_help_0  x1 x2 σ
theorem con_X11_help {Ω : OM} (hO : OKO Ω) (hΩ : oSH Ω = SHX) (x1 : Int32) (x2 : Int32) (σ : MS)  : Con Ω yX11_help cX11_help 7 (some .int) rm_X11_help (emWI) [.ref 0, .int x1, .int x2] σ (f_X11_help x1 x2 σ) :=
  con_of hO (by decide +kernel) (Nat.le_of_ble_eq_true rfl) rfl (fun X hX _ => c_X11_help_0 hX hO hΩ   x1 x2 σ )
def it_X11_value : List (Nat × Instr × Nat × Nat) := [(0, .aload_n 0, 1, 1), (1, .iload_n 1, 1, 2), (2, .invokevirtual 251, 3, 5), (5, .ifCond .eq 10, 3, 8), (8, .iload_n 2, 1, 9), (9, .invokestatic 270, 3, 12), (12, .ifCond .ne 7, 3, 15), (15, .ldc_w 273, 3, 18), (18, .ireturn, 1, 19), (19, .aload_n 0, 1, 20), (20, .iconst (-1), 1, 21), (21, .invokevirtual 264, 3, 24), (24, .aload_n 0, 1, 25), (25, .iload_n 2, 1, 26), (26, .invokevirtual 267, 3, 29), (29, .pop, 1, 30), (30, .aload_n 0, 1, 31), (31, .getfield 65, 3, 34), (34, .invokevirtual 274, 3, 37), (37, .istore_n 3, 1, 38), (38, .aload_n 0, 1, 39), (39, .iconst (-1), 1, 40), (40, .invokevirtual 264, 3, 43), (43, .aload_n 0, 1, 44), (44, .getfield 65, 3, 47), (47, .iload_n 1, 1, 48), (48, .invokevirtual 257, 3, 51), (51, .aload_n 0, 1, 52), (52, .iload_n 2, 1, 53), (53, .invokevirtual 267, 3, 56), (56, .pop, 1, 57), (57, .iload_n 3, 1, 58), (58, .aload_n 0, 1, 59), (59, .getfield 65, 3, 62), (62, .invokevirtual 274, 3, 65), (65, .isub, 1, 66), (66, .ireturn, 1, 67)]
theorem id_X11_value : ∀ q ∈ it_X11_value, decode cX11_value q.1 = .ok (q.2.1, q.2.2.1) ∧ q.1 + q.2.2.1 = q.2.2.2 := by decide +kernel
theorem dc_X11_value {pc : Nat} {i : Instr} {n pc' : Nat} (j : Nat) (h : it_X11_value[j]? = some (pc, i, n, pc')) : Dc cX11_value pc i n pc' := dc_of id_X11_value j h
abbrev rm_X11_value : Room := { frames := 7, cells := 0, slots := 0, locals := 171 }
def b_X11_value_15     (σ : MS) : Option (Int32 × MS) := some ((-100000 : Int32), σ)
set_option maxHeartbeats 4000000 in
set_option maxRecDepth 20000 in
theorem c_X11_value_15 {X : CX} {Ω : OM} (hX : CF X Ω RX11 cX11_value 4 (some .int) rm_X11_value) (hO : OKO Ω) (hΩ : oSH Ω = SHX)      (σ : MS)  : GE X Ω 4 0 0 (emWI) 0 0 15 [] [] σ (b_X11_value_15  σ) := by
  unfold b_X11_value_15
  refine g_ldcw hX (dc_X11_value 7 rfl) wk_X11_273 ?_
  exact g_iret hX (dc_X11_value 8 rfl) rfl rfl (Nat.le_refl _) (Nat.le_refl _)
def b_X11_value_0   (x1 : Int32) (x2 : Int32)  (σ : MS) : Option (Int32 × MS) := (f_X11_goes x1 σ).bind (fun r12 => (if r12 = 0 then (b_X11_value_15 σ) else (f_X11_isPlan x2).bind (fun r14 => (if r14 = 0 then (b_X11_value_15 σ) else (f_X11_startTrial (-1 : Int32) σ).bind (fun r16 => (f_X11_stopsInTrial x2 r16).bind (fun r17 => (f_X8_allPurses 46 r17.2).bind (fun r18 => (f_X11_startTrial (-1 : Int32) r17.2).bind (fun r19 => (f_X8_lay 46 x1 r19).bind (fun r20 => (f_X11_stopsInTrial x2 r20).bind (fun r21 => (f_X8_allPurses 46 r21.2).bind (fun r22 => some ((r18 - r22), r21.2))))))))))))
set_option maxHeartbeats 4000000 in
set_option maxRecDepth 20000 in
theorem c_X11_value_0 {X : CX} {Ω : OM} (hX : CF X Ω RX11 cX11_value 4 (some .int) rm_X11_value) (hO : OKO Ω) (hΩ : oSH Ω = SHX)    (x1 : Int32) (x2 : Int32)  (σ : MS)  : GE X Ω 4 0 0 (emWI) 0 0 0 [(0, .ref 0), (1, .int x1), (2, .int x2)] [] σ (b_X11_value_0  x1 x2 σ) := by
  unfold b_X11_value_0
  refine g_aload_n hX (dc_X11_value 0 rfl) rfl 0 rfl ?_
  refine g_iload_n hX (dc_X11_value 1 rfl) rfl 1 rfl ?_
  refine gV_PI (As := [.int x1]) (st := []) hX (dc_X11_value 2 rfl) ml_X11_251 (con_X11_goes hO hΩ x1 σ) (stS hΩ 0 rfl) rfl rfl ⟨by decide, by decide⟩ ⟨rfl, rfl⟩ ⟨Nat.zero_le _, Nat.zero_le _⟩ (Nat.le_of_ble_eq_true rfl) (fun r12 _ => ?_)
  refine g_if_eq (tgt := 15) hX (dc_X11_value 3 rfl) (by decide) (fun h13 => ?_) (fun h13 => ?_)
  · exact g_sub [] rfl (c_X11_value_15 hX hO hΩ σ)
  · refine g_iload_n hX (dc_X11_value 4 rfl) rfl 2 rfl ?_
    refine gS_PI (As := [.int x2]) (st := []) hX (dc_X11_value 5 rfl) ml_X11_270 (con_X11_isPlan hO hΩ x2 σ) rfl rfl ⟨by decide, by decide⟩ ⟨rfl, rfl⟩ ⟨Nat.zero_le _, Nat.zero_le _⟩ (Nat.le_of_ble_eq_true rfl) (fun r14 _ => ?_)
    refine g_if_ne (tgt := 19) hX (dc_X11_value 6 rfl) (by decide) (fun h15 => ?_) (fun h15 => ?_)
    · exact g_sub [] rfl (c_X11_value_15 hX hO hΩ σ)
    · refine g_aload_n hX (dc_X11_value 9 rfl) rfl 0 rfl ?_
      refine g_iconst (w := (-1 : Int32)) hX (dc_X11_value 10 rfl) (by decide) ?_
      refine gV_WV (As := [.int (-1 : Int32)]) (st := []) hX (dc_X11_value 11 rfl) ml_X11_264 (con_X11_startTrial hO hΩ (-1 : Int32) σ) (stS hΩ 0 rfl) rfl rfl ⟨by decide, by decide⟩ ⟨rfl, rfl⟩ ⟨Nat.zero_le _, Nat.zero_le _⟩ (Nat.le_of_ble_eq_true rfl) (fun r16 _ => ?_)
      refine g_aload_n hX (dc_X11_value 12 rfl) rfl 0 rfl ?_
      refine g_iload_n hX (dc_X11_value 13 rfl) rfl 2 rfl ?_
      refine gV_WI (As := [.int x2]) (st := []) hX (dc_X11_value 14 rfl) ml_X11_267 (con_X11_stopsInTrial hO hΩ x2 r16) (stS hΩ 0 rfl) rfl rfl ⟨by decide, by decide⟩ ⟨rfl, rfl⟩ ⟨Nat.zero_le _, Nat.zero_le _⟩ (Nat.le_of_ble_eq_true rfl) (fun r17 _ => ?_)
      refine g_pop hX (dc_X11_value 15 rfl) rfl ?_
      refine g_aload_n hX (dc_X11_value 16 rfl) rfl 0 rfl ?_
      refine g_getF (q := 46) hX (dc_X11_value 17 rfl) fl_X11_65 (by decide) rfl (stS hΩ 0 rfl) rfl ?_
      refine gV_PI (As := []) (st := []) hX (dc_X11_value 18 rfl) ml_X11_274 (con_X8_allPurses hO hΩ 46 r17.2 (stR hΩ 46 (by decide))) (stS hΩ 46 rfl) rfl rfl ⟨by decide, by decide⟩ ⟨rfl, rfl⟩ ⟨Nat.zero_le _, Nat.zero_le _⟩ (Nat.le_of_ble_eq_true rfl) (fun r18 _ => ?_)
      refine g_istore_n (L' := [(3, .int r18), (0, .ref 0), (1, .int x1), (2, .int x2)]) hX (dc_X11_value 19 rfl) rfl (by decide) rfl ?_
      refine g_aload_n hX (dc_X11_value 20 rfl) rfl 1 rfl ?_
      refine g_iconst (w := (-1 : Int32)) hX (dc_X11_value 21 rfl) (by decide) ?_
      refine gV_WV (As := [.int (-1 : Int32)]) (st := []) hX (dc_X11_value 22 rfl) ml_X11_264 (con_X11_startTrial hO hΩ (-1 : Int32) r17.2) (stS hΩ 0 rfl) rfl rfl ⟨by decide, by decide⟩ ⟨rfl, rfl⟩ ⟨Nat.zero_le _, Nat.zero_le _⟩ (Nat.le_of_ble_eq_true rfl) (fun r19 _ => ?_)
      refine g_aload_n hX (dc_X11_value 23 rfl) rfl 1 rfl ?_
      refine g_getF (q := 46) hX (dc_X11_value 24 rfl) fl_X11_65 (by decide) rfl (stS hΩ 0 rfl) rfl ?_
      refine g_iload_n hX (dc_X11_value 25 rfl) rfl 2 rfl ?_
      refine gV_WV (As := [.int x1]) (st := []) hX (dc_X11_value 26 rfl) ml_X11_257 (con_X8_lay hO hΩ 46 x1 r19 (stR hΩ 46 (by decide))) (stS hΩ 46 rfl) rfl rfl ⟨by decide, by decide⟩ ⟨rfl, rfl⟩ ⟨Nat.zero_le _, Nat.zero_le _⟩ (Nat.le_of_ble_eq_true rfl) (fun r20 _ => ?_)
      refine g_aload_n hX (dc_X11_value 27 rfl) rfl 1 rfl ?_
      refine g_iload_n hX (dc_X11_value 28 rfl) rfl 3 rfl ?_
      refine gV_WI (As := [.int x2]) (st := []) hX (dc_X11_value 29 rfl) ml_X11_267 (con_X11_stopsInTrial hO hΩ x2 r20) (stS hΩ 0 rfl) rfl rfl ⟨by decide, by decide⟩ ⟨rfl, rfl⟩ ⟨Nat.zero_le _, Nat.zero_le _⟩ (Nat.le_of_ble_eq_true rfl) (fun r21 _ => ?_)
      refine g_pop hX (dc_X11_value 30 rfl) rfl ?_
      refine g_iload_n hX (dc_X11_value 31 rfl) rfl 0 rfl ?_
      refine g_aload_n hX (dc_X11_value 32 rfl) rfl 1 rfl ?_
      refine g_getF (q := 46) hX (dc_X11_value 33 rfl) fl_X11_65 (by decide) rfl (stS hΩ 0 rfl) rfl ?_
      refine gV_PI (As := []) (st := [.int r18]) hX (dc_X11_value 34 rfl) ml_X11_274 (con_X8_allPurses hO hΩ 46 r21.2 (stR hΩ 46 (by decide))) (stS hΩ 46 rfl) rfl rfl ⟨by decide, by decide⟩ ⟨rfl, rfl⟩ ⟨Nat.zero_le _, Nat.zero_le _⟩ (Nat.le_of_ble_eq_true rfl) (fun r22 _ => ?_)
      refine g_isub hX (dc_X11_value 35 rfl) ?_
      exact g_iret hX (dc_X11_value 36 rfl) rfl rfl (Nat.le_refl _) (Nat.le_refl _)
def f_X11_value (x1 : Int32) (x2 : Int32) (σ : MS) : Option (Int32 × MS) := b_X11_value_0  x1 x2 σ
theorem con_X11_value {Ω : OM} (hO : OKO Ω) (hΩ : oSH Ω = SHX) (x1 : Int32) (x2 : Int32) (σ : MS)  : Con Ω yX11_value cX11_value 4 (some .int) rm_X11_value (emWI) [.ref 0, .int x1, .int x2] σ (f_X11_value x1 x2 σ) :=
  con_of hO (by decide +kernel) (Nat.le_of_ble_eq_true rfl) rfl (fun X hX _ => c_X11_value_0 hX hO hΩ   x1 x2 σ )
def it_X11_relay : List (Nat × Instr × Nat × Nat) := [(0, .aload_n 0, 1, 1), (1, .iload_n 1, 1, 2), (2, .invokevirtual 251, 3, 5), (5, .ifCond .eq 21, 3, 8), (8, .iload_n 2, 1, 9), (9, .invokestatic 270, 3, 12), (12, .ifCond .eq 14, 3, 15), (15, .iload_n 3, 1, 16), (16, .iconst (-1), 1, 17), (17, .if_icmp .lt 9, 3, 20), (20, .iload_n 3, 1, 21), (21, .bipush 48, 2, 23), (23, .if_icmp .lt 6, 3, 26), (26, .bipush (-3), 2, 28), (28, .ireturn, 1, 29), (29, .iload_n 3, 1, 30), (30, .iload_n 2, 1, 31), (31, .if_icmp .lt 6, 3, 34), (34, .bipush (-2), 2, 36), (36, .ireturn, 1, 37), (37, .aload_n 0, 1, 38), (38, .getfield 72, 3, 41), (41, .aload_n 0, 1, 42), (42, .getfield 41, 3, 45), (45, .getfield 51, 3, 48), (48, .aload_n 0, 1, 49), (49, .getfield 41, 3, 52), (52, .getfield 140, 3, 55), (55, .getfield 192, 3, 58), (58, .iload_n 2, 1, 59), (59, .invokevirtual 281, 3, 62), (62, .aload_n 0, 1, 63), (63, .getfield 41, 3, 66), (66, .getfield 140, 3, 69), (69, .getfield 168, 3, 72), (72, .iload_n 1, 1, 73), (73, .iaload, 1, 74), (74, .istore 4, 2, 76), (76, .aload_n 0, 1, 77), (77, .getfield 72, 3, 80), (80, .iconst 0, 1, 81), (81, .iload 4, 2, 83), (83, .invokevirtual 285, 3, 86), (86, .istore 5, 2, 88), (88, .iload 5, 2, 90), (90, .sipush 1000, 3, 93), (93, .if_icmp .lt 6, 3, 96), (96, .bipush (-2), 2, 98), (98, .ireturn, 1, 99), (99, .iload_n 3, 1, 100), (100, .iconst (-1), 1, 101), (101, .if_icmp .ne 8, 3, 104), (104, .iload 5, 2, 106), (106, .goto 13, 3, 109), (109, .aload_n 0, 1, 110), (110, .getfield 72, 3, 113), (113, .iload_n 3, 1, 114), (114, .iload 4, 2, 116), (116, .invokevirtual 289, 3, 119), (119, .ireturn, 1, 120)]
theorem id_X11_relay : ∀ q ∈ it_X11_relay, decode cX11_relay q.1 = .ok (q.2.1, q.2.2.1) ∧ q.1 + q.2.2.1 = q.2.2.2 := by decide +kernel
theorem dc_X11_relay {pc : Nat} {i : Instr} {n pc' : Nat} (j : Nat) (h : it_X11_relay[j]? = some (pc, i, n, pc')) : Dc cX11_relay pc i n pc' := dc_of id_X11_relay j h
abbrev rm_X11_relay : Room := { frames := 4, cells := 0, slots := 0, locals := 95 }
def b_X11_relay_119    (s0 : Int32) (σ : MS) : Option (Int32 × MS) := some (s0, σ)
set_option maxHeartbeats 4000000 in
set_option maxRecDepth 20000 in
theorem c_X11_relay_119 {X : CX} {Ω : OM} (hX : CF X Ω RX11 cX11_relay 6 (some .int) rm_X11_relay) (hO : OKO Ω) (hΩ : oSH Ω = SHX)     (s0 : Int32) (σ : MS)  : GE X Ω 6 0 0 (emWI) 0 0 119 [] [.int s0] σ (b_X11_relay_119  s0 σ) := by
  unfold b_X11_relay_119
  exact g_iret hX (dc_X11_relay 59 rfl) rfl rfl (Nat.le_refl _) (Nat.le_refl _)
def b_X11_relay_26     (σ : MS) : Option (Int32 × MS) := some ((-3 : Int32), σ)
set_option maxHeartbeats 4000000 in
set_option maxRecDepth 20000 in
theorem c_X11_relay_26 {X : CX} {Ω : OM} (hX : CF X Ω RX11 cX11_relay 6 (some .int) rm_X11_relay) (hO : OKO Ω) (hΩ : oSH Ω = SHX)      (σ : MS)  : GE X Ω 6 0 0 (emWI) 0 0 26 [] [] σ (b_X11_relay_26  σ) := by
  unfold b_X11_relay_26
  refine g_bipush (w := (-3 : Int32)) hX (dc_X11_relay 13 rfl) (by decide) ?_
  exact g_iret hX (dc_X11_relay 14 rfl) rfl rfl (Nat.le_refl _) (Nat.le_refl _)
def b_X11_relay_0   (x1 : Int32) (x2 : Int32) (x3 : Int32)  (σ : MS) : Option (Int32 × MS) := (f_X11_goes x1 σ).bind (fun r14 => (if r14 = 0 then (b_X11_relay_26 σ) else (f_X11_isPlan x2).bind (fun r16 => (if r16 = 0 then (b_X11_relay_26 σ) else (if x3 < (-1 : Int32) then (b_X11_relay_26 σ) else (if x3 < (48 : Int32) then (if x3 < x2 then (f_X5_weigh (sI σ 35 5) x2 σ).bind (fun r21 => chk (inb x1 6) ((f_X5_fewestFrom (0 : Int32) (sI r21 36 (ix x1)) r21).bind (fun r23 => (if r23 < (1000 : Int32) then (if x3 = (-1 : Int32) then (b_X11_relay_119 (r23) r21) else (f_X5_holderIn x3 (sI r21 36 (ix x1)) r21).bind (fun r26 => (b_X11_relay_119 (r26) r21))) else some ((-2 : Int32), r21))))) else some ((-2 : Int32), σ)) else (b_X11_relay_26 σ)))))))
set_option maxHeartbeats 4000000 in
set_option maxRecDepth 20000 in
theorem c_X11_relay_0 {X : CX} {Ω : OM} (hX : CF X Ω RX11 cX11_relay 6 (some .int) rm_X11_relay) (hO : OKO Ω) (hΩ : oSH Ω = SHX)    (x1 : Int32) (x2 : Int32) (x3 : Int32)  (σ : MS)  : GE X Ω 6 0 0 (emWI) 0 0 0 [(0, .ref 0), (1, .int x1), (2, .int x2), (3, .int x3)] [] σ (b_X11_relay_0  x1 x2 x3 σ) := by
  unfold b_X11_relay_0
  refine g_aload_n hX (dc_X11_relay 0 rfl) rfl 0 rfl ?_
  refine g_iload_n hX (dc_X11_relay 1 rfl) rfl 1 rfl ?_
  refine gV_PI (As := [.int x1]) (st := []) hX (dc_X11_relay 2 rfl) ml_X11_251 (con_X11_goes hO hΩ x1 σ) (stS hΩ 0 rfl) rfl rfl ⟨by decide, by decide⟩ ⟨rfl, rfl⟩ ⟨Nat.zero_le _, Nat.zero_le _⟩ (Nat.le_of_ble_eq_true rfl) (fun r14 _ => ?_)
  refine g_if_eq (tgt := 26) hX (dc_X11_relay 3 rfl) (by decide) (fun h15 => ?_) (fun h15 => ?_)
  · exact g_sub [] rfl (c_X11_relay_26 hX hO hΩ σ)
  · refine g_iload_n hX (dc_X11_relay 4 rfl) rfl 2 rfl ?_
    refine gS_PI (As := [.int x2]) (st := []) hX (dc_X11_relay 5 rfl) ml_X11_270 (con_X11_isPlan hO hΩ x2 σ) rfl rfl ⟨by decide, by decide⟩ ⟨rfl, rfl⟩ ⟨Nat.zero_le _, Nat.zero_le _⟩ (Nat.le_of_ble_eq_true rfl) (fun r16 _ => ?_)
    refine g_if_eq (tgt := 26) hX (dc_X11_relay 6 rfl) (by decide) (fun h17 => ?_) (fun h17 => ?_)
    · exact g_sub [] rfl (c_X11_relay_26 hX hO hΩ σ)
    · refine g_iload_n hX (dc_X11_relay 7 rfl) rfl 3 rfl ?_
      refine g_iconst (w := (-1 : Int32)) hX (dc_X11_relay 8 rfl) (by decide) ?_
      refine g_icmp_lt (tgt := 26) hX (dc_X11_relay 9 rfl) (by decide) (fun h18 => ?_) (fun h18 => ?_)
      · exact g_sub [] rfl (c_X11_relay_26 hX hO hΩ σ)
      · refine g_iload_n hX (dc_X11_relay 10 rfl) rfl 3 rfl ?_
        refine g_bipush (w := (48 : Int32)) hX (dc_X11_relay 11 rfl) (by decide) ?_
        refine g_icmp_lt (tgt := 29) hX (dc_X11_relay 12 rfl) (by decide) (fun h19 => ?_) (fun h19 => ?_)
        · refine g_iload_n hX (dc_X11_relay 15 rfl) rfl 3 rfl ?_
          refine g_iload_n hX (dc_X11_relay 16 rfl) rfl 2 rfl ?_
          refine g_icmp_lt (tgt := 37) hX (dc_X11_relay 17 rfl) (by decide) (fun h20 => ?_) (fun h20 => ?_)
          · refine g_aload_n hX (dc_X11_relay 20 rfl) rfl 0 rfl ?_
            refine g_getF (q := 50) hX (dc_X11_relay 21 rfl) fl_X11_72 (by decide) rfl (stS hΩ 0 rfl) rfl ?_
            refine g_aload_n hX (dc_X11_relay 22 rfl) rfl 0 rfl ?_
            refine g_getF (q := 22) hX (dc_X11_relay 23 rfl) fl_X11_41 (by decide) rfl (stS hΩ 0 rfl) rfl ?_
            refine g_getF (q := 23) hX (dc_X11_relay 24 rfl) fl_X11_51 (by decide) rfl (stS hΩ 22 rfl) rfl ?_
            refine g_aload_n hX (dc_X11_relay 25 rfl) rfl 0 rfl ?_
            refine g_getF (q := 22) hX (dc_X11_relay 26 rfl) fl_X11_41 (by decide) rfl (stS hΩ 0 rfl) rfl ?_
            refine g_getF (q := 35) hX (dc_X11_relay 27 rfl) fl_X11_140 (by decide) rfl (stS hΩ 22 rfl) rfl ?_
            refine g_getI hX (dc_X11_relay 28 rfl) fl_X11_192 (by decide) rfl (stS hΩ 35 rfl) ?_
            refine g_iload_n hX (dc_X11_relay 29 rfl) rfl 2 rfl ?_
            refine gV_WV (As := [.ref 23, .int (sI σ 35 5), .int x2]) (st := []) hX (dc_X11_relay 30 rfl) ml_X11_281 (con_X5_weigh hO hΩ (sI σ 35 5) x2 σ) (stS hΩ 50 rfl) rfl rfl ⟨by decide, by decide⟩ ⟨rfl, rfl⟩ ⟨Nat.zero_le _, Nat.zero_le _⟩ (Nat.le_of_ble_eq_true rfl) (fun r21 _ => ?_)
            refine g_aload_n hX (dc_X11_relay 31 rfl) rfl 0 rfl ?_
            refine g_getF (q := 22) hX (dc_X11_relay 32 rfl) fl_X11_41 (by decide) rfl (stS hΩ 0 rfl) rfl ?_
            refine g_getF (q := 35) hX (dc_X11_relay 33 rfl) fl_X11_140 (by decide) rfl (stS hΩ 22 rfl) rfl ?_
            refine g_getF (q := 36) hX (dc_X11_relay 34 rfl) fl_X11_168 (by decide) rfl (stS hΩ 35 rfl) rfl ?_
            refine g_iload_n hX (dc_X11_relay 35 rfl) rfl 1 rfl ?_
            refine g_chk (fun hc22 => ?_)
            refine g_iald hX (dc_X11_relay 36 rfl) (stS hΩ 36 rfl) hc22 rfl ?_
            refine g_istore (L' := [(4, .int (sI r21 36 (ix x1))), (0, .ref 0), (1, .int x1), (2, .int x2), (3, .int x3)]) hX (dc_X11_relay 37 rfl) (by decide) rfl ?_
            refine g_aload_n hX (dc_X11_relay 38 rfl) rfl 1 rfl ?_
            refine g_getF (q := 50) hX (dc_X11_relay 39 rfl) fl_X11_72 (by decide) rfl (stS hΩ 0 rfl) rfl ?_
            refine g_iconst (w := (0 : Int32)) hX (dc_X11_relay 40 rfl) (by decide) ?_
            refine g_iload hX (dc_X11_relay 41 rfl) 0 rfl ?_
            refine gV_PI (As := [.int (0 : Int32), .int (sI r21 36 (ix x1))]) (st := []) hX (dc_X11_relay 42 rfl) ml_X11_285 (con_X5_fewestFrom hO hΩ (0 : Int32) (sI r21 36 (ix x1)) r21) (stS hΩ 50 rfl) rfl rfl ⟨by decide, by decide⟩ ⟨rfl, rfl⟩ ⟨Nat.zero_le _, Nat.zero_le _⟩ (Nat.le_of_ble_eq_true rfl) (fun r23 _ => ?_)
            refine g_istore (L' := [(5, .int r23), (4, .int (sI r21 36 (ix x1))), (0, .ref 0), (1, .int x1), (2, .int x2), (3, .int x3)]) hX (dc_X11_relay 43 rfl) (by decide) rfl ?_
            refine g_iload hX (dc_X11_relay 44 rfl) 0 rfl ?_
            refine g_sipush (w := (1000 : Int32)) hX (dc_X11_relay 45 rfl) (by decide) ?_
            refine g_icmp_lt (tgt := 99) hX (dc_X11_relay 46 rfl) (by decide) (fun h24 => ?_) (fun h24 => ?_)
            · refine g_iload_n hX (dc_X11_relay 49 rfl) rfl 5 rfl ?_
              refine g_iconst (w := (-1 : Int32)) hX (dc_X11_relay 50 rfl) (by decide) ?_
              refine g_icmp_ne (tgt := 109) hX (dc_X11_relay 51 rfl) (by decide) (fun h25 => ?_) (fun h25 => ?_)
              · refine g_iload hX (dc_X11_relay 52 rfl) 0 rfl ?_
                refine g_goto (tgt := 119) hX (dc_X11_relay 53 rfl) (by decide) ?_
                exact g_sub [] rfl (c_X11_relay_119 hX hO hΩ (r23) r21)
              · refine g_aload_n hX (dc_X11_relay 54 rfl) rfl 2 rfl ?_
                refine g_getF (q := 50) hX (dc_X11_relay 55 rfl) fl_X11_72 (by decide) rfl (stS hΩ 0 rfl) rfl ?_
                refine g_iload_n hX (dc_X11_relay 56 rfl) rfl 5 rfl ?_
                refine g_iload hX (dc_X11_relay 57 rfl) 1 rfl ?_
                refine gV_PI (As := [.int x3, .int (sI r21 36 (ix x1))]) (st := []) hX (dc_X11_relay 58 rfl) ml_X11_289 (con_X5_holderIn hO hΩ x3 (sI r21 36 (ix x1)) r21) (stS hΩ 50 rfl) rfl rfl ⟨by decide, by decide⟩ ⟨rfl, rfl⟩ ⟨Nat.zero_le _, Nat.zero_le _⟩ (Nat.le_of_ble_eq_true rfl) (fun r26 _ => ?_)
                exact g_sub [] rfl (c_X11_relay_119 hX hO hΩ (r26) r21)
            · refine g_bipush (w := (-2 : Int32)) hX (dc_X11_relay 47 rfl) (by decide) ?_
              exact g_iret hX (dc_X11_relay 48 rfl) rfl rfl (Nat.le_refl _) (Nat.le_refl _)
          · refine g_bipush (w := (-2 : Int32)) hX (dc_X11_relay 18 rfl) (by decide) ?_
            exact g_iret hX (dc_X11_relay 19 rfl) rfl rfl (Nat.le_refl _) (Nat.le_refl _)
        · exact g_sub [] rfl (c_X11_relay_26 hX hO hΩ σ)
def f_X11_relay (x1 : Int32) (x2 : Int32) (x3 : Int32) (σ : MS) : Option (Int32 × MS) := b_X11_relay_0  x1 x2 x3 σ
theorem con_X11_relay {Ω : OM} (hO : OKO Ω) (hΩ : oSH Ω = SHX) (x1 : Int32) (x2 : Int32) (x3 : Int32) (σ : MS)  : Con Ω yX11_relay cX11_relay 6 (some .int) rm_X11_relay (emWI) [.ref 0, .int x1, .int x2, .int x3] σ (f_X11_relay x1 x2 x3 σ) :=
  con_of hO (by decide +kernel) (Nat.le_of_ble_eq_true rfl) rfl (fun X hX _ => c_X11_relay_0 hX hO hΩ   x1 x2 x3 σ )
def it_X11_most : List (Nat × Instr × Nat × Nat) := [(0, .aload_n 0, 1, 1), (1, .getfield 41, 3, 4), (4, .getfield 51, 3, 7), (7, .getfield 220, 3, 10), (10, .ifCond .eq 19, 3, 13), (13, .iload_n 1, 1, 14), (14, .invokestatic 270, 3, 17), (17, .ifCond .eq 12, 3, 20), (20, .iload_n 2, 1, 21), (21, .ifCond .lt 8, 3, 24), (24, .iload_n 2, 1, 25), (25, .iconst 1, 1, 26), (26, .if_icmp .le 5, 3, 29), (29, .iconst (-1), 1, 30), (30, .ireturn, 1, 31), (31, .aload_n 0, 1, 32), (32, .getfield 41, 3, 35), (35, .getfield 140, 3, 38), (38, .getfield 192, 3, 41), (41, .istore_n 3, 1, 42), (42, .aload_n 0, 1, 43), (43, .getfield 41, 3, 46), (46, .getfield 51, 3, 49), (49, .iload_n 3, 1, 50), (50, .invokevirtual 292, 3, 53), (53, .istore 4, 2, 55), (55, .iload_n 3, 1, 56), (56, .istore 5, 2, 58), (58, .iload_n 3, 1, 59), (59, .iconst 1, 1, 60), (60, .iadd, 1, 61), (61, .istore 6, 2, 63), (63, .iload 6, 2, 65), (65, .iload_n 3, 1, 66), (66, .iload_n 1, 1, 67), (67, .iadd, 1, 68), (68, .if_icmp .ge 38, 3, 71), (71, .aload_n 0, 1, 72), (72, .getfield 41, 3, 75), (75, .getfield 51, 3, 78), (78, .iload 6, 2, 80), (80, .invokevirtual 292, 3, 83), (83, .istore 7, 2, 85), (85, .iload 7, 2, 87), (87, .iload 4, 2, 89), (89, .if_icmp .ge 11, 3, 92), (92, .iload 7, 2, 94), (94, .istore 4, 2, 96), (96, .iload 6, 2, 98), (98, .istore 5, 2, 100), (100, .iinc 6 1, 3, 103), (103, .goto (-40), 3, 106), (106, .iload_n 2, 1, 107), (107, .ifCond .ne 8, 3, 110), (110, .iload 4, 2, 112), (112, .goto 5, 3, 115), (115, .iload 5, 2, 117), (117, .ireturn, 1, 118)]
theorem id_X11_most : ∀ q ∈ it_X11_most, decode cX11_most q.1 = .ok (q.2.1, q.2.2.1) ∧ q.1 + q.2.2.1 = q.2.2.2 := by decide +kernel
theorem dc_X11_most {pc : Nat} {i : Instr} {n pc' : Nat} (j : Nat) (h : it_X11_most[j]? = some (pc, i, n, pc')) : Dc cX11_most pc i n pc' := dc_of id_X11_most j h
abbrev rm_X11_most : Room := { frames := 3, cells := 0, slots := 0, locals := 67 }
def b_X11_most_117    (s0 : Int32) (σ : MS) : Option (Int32) := some s0
set_option maxHeartbeats 4000000 in
set_option maxRecDepth 20000 in
theorem c_X11_most_117 {X : CX} {Ω : OM} (hX : CF X Ω RX11 cX11_most 8 (some .int) rm_X11_most) (hO : OKO Ω) (hΩ : oSH Ω = SHX)   (σ : MS)   (s0 : Int32)   : GE X Ω 8 0 0 (emPI σ) 0 0 117 [] [.int s0] σ (b_X11_most_117  s0 σ) := by
  unfold b_X11_most_117
  exact g_iret hX (dc_X11_most 57 rfl) rfl rfl (Nat.le_refl _) (Nat.le_refl _)
def b_X11_most_100  (k63 : Int32 → Int32 → Int32 → Int32 → Int32 → Int32 → MS → Option (Int32))  (y1 : Int32) (y2 : Int32) (y3 : Int32) (y4 : Int32) (y5 : Int32) (y6 : Int32) (σ : MS) : Option (Int32) := (k63 (y1) (y2) (y3) (y4) (y5) ((y6 + (1 : Int32))) σ)
set_option maxHeartbeats 4000000 in
set_option maxRecDepth 20000 in
theorem c_X11_most_100 {X : CX} {Ω : OM} (hX : CF X Ω RX11 cX11_most 8 (some .int) rm_X11_most) (hO : OKO Ω) (hΩ : oSH Ω = SHX)   (σ : MS) (k63 : Int32 → Int32 → Int32 → Int32 → Int32 → Int32 → MS → Option (Int32)) (hk63 : ∀ (y1 : Int32) (y2 : Int32) (y3 : Int32) (y4 : Int32) (y5 : Int32) (y6 : Int32), GE X Ω 8 0 0 (emPI σ) 0 0 63 [(0, .ref 0), (1, .int y1), (2, .int y2), (3, .int y3), (4, .int y4), (5, .int y5), (6, .int y6)] [] σ (k63 y1 y2 y3 y4 y5 y6 σ))  (y1 : Int32) (y2 : Int32) (y3 : Int32) (y4 : Int32) (y5 : Int32) (y6 : Int32)   : GE X Ω 8 0 0 (emPI σ) 0 0 100 [(0, .ref 0), (1, .int y1), (2, .int y2), (3, .int y3), (4, .int y4), (5, .int y5), (6, .int y6)] [] σ (b_X11_most_100  k63 y1 y2 y3 y4 y5 y6 σ) := by
  unfold b_X11_most_100
  refine g_iinc (w := (y6 + (1 : Int32))) (L' := [(6, .int (y6 + (1 : Int32))), (0, .ref 0), (1, .int y1), (2, .int y2), (3, .int y3), (4, .int y4), (5, .int y5)]) hX (dc_X11_most 50 rfl) 6 rfl rfl (by decide) rfl ?_
  refine g_goto (tgt := 63) hX (dc_X11_most 51 rfl) (by decide) ?_
  exact g_sub [1, 2, 3, 4, 5, 6, 0] rfl (hk63 (y1) (y2) (y3) (y4) (y5) ((y6 + (1 : Int32))) )
def b_X11_most_63   : Nat → Int32 → Int32 → Int32 → Int32 → Int32 → Int32 → MS → Option (Int32)
  | 0, _, _, _, _, _, _, _ => none
  | n + 1, y1, y2, y3, y4, y5, y6, σ => (if (y3 + y1) ≤ y6 then (if y2 = 0 then (b_X11_most_117 (y4) σ) else (b_X11_most_117 (y5) σ)) else (f_X3_handsAwakeAt y6 σ).bind (fun r13 => (if y4 ≤ r13 then (b_X11_most_100 (b_X11_most_63  n) (y1) (y2) (y3) (y4) (y5) (y6) σ) else (b_X11_most_100 (b_X11_most_63  n) (y1) (y2) (y3) (r13) (y6) (y6) σ))))
set_option maxHeartbeats 4000000 in
set_option maxRecDepth 20000 in
theorem c_X11_most_63 {X : CX} {Ω : OM} (hX : CF X Ω RX11 cX11_most 8 (some .int) rm_X11_most) (hO : OKO Ω) (hΩ : oSH Ω = SHX)   (σ : MS)  : ∀ (n : Nat) (y1 : Int32) (y2 : Int32) (y3 : Int32) (y4 : Int32) (y5 : Int32) (y6 : Int32)  , GE X Ω 8 0 0 (emPI σ) 0 0 63 [(0, .ref 0), (1, .int y1), (2, .int y2), (3, .int y3), (4, .int y4), (5, .int y5), (6, .int y6)] [] σ (b_X11_most_63  n y1 y2 y3 y4 y5 y6 σ)
  | 0, _, _, _, _, _, _ => g_none
  | n + 1, y1, y2, y3, y4, y5, y6 => by
    have hk63 := c_X11_most_63 hX hO hΩ  σ n
    unfold b_X11_most_63
    refine g_iload hX (dc_X11_most 32 rfl) 6 rfl ?_
    refine g_iload_n hX (dc_X11_most 33 rfl) rfl 3 rfl ?_
    refine g_iload_n hX (dc_X11_most 34 rfl) rfl 1 rfl ?_
    refine g_iadd hX (dc_X11_most 35 rfl) ?_
    refine g_icmp_ge (tgt := 106) hX (dc_X11_most 36 rfl) (by decide) (fun h11 => ?_) (fun h11 => ?_)
    · refine g_iload_n hX (dc_X11_most 52 rfl) rfl 2 rfl ?_
      refine g_if_ne (tgt := 115) hX (dc_X11_most 53 rfl) (by decide) (fun h12 => ?_) (fun h12 => ?_)
      · refine g_iload hX (dc_X11_most 54 rfl) 4 rfl ?_
        refine g_goto (tgt := 117) hX (dc_X11_most 55 rfl) (by decide) ?_
        exact g_sub [] rfl (c_X11_most_117 hX hO hΩ σ (y4))
      · refine g_iload hX (dc_X11_most 56 rfl) 5 rfl ?_
        exact g_sub [] rfl (c_X11_most_117 hX hO hΩ σ (y5))
    · refine g_aload_n hX (dc_X11_most 37 rfl) rfl 0 rfl ?_
      refine g_getF (q := 22) hX (dc_X11_most 38 rfl) fl_X11_41 (by decide) rfl (stS hΩ 0 rfl) rfl ?_
      refine g_getF (q := 23) hX (dc_X11_most 39 rfl) fl_X11_51 (by decide) rfl (stS hΩ 22 rfl) rfl ?_
      refine g_iload hX (dc_X11_most 40 rfl) 6 rfl ?_
      refine gV_PI (As := [.int y6]) (st := []) hX (dc_X11_most 41 rfl) ml_X11_292 (con_X3_handsAwakeAt hO hΩ y6 σ) (stS hΩ 23 rfl) rfl rfl ⟨by decide, by decide⟩ ⟨rfl, rfl⟩ ⟨Nat.zero_le _, Nat.zero_le _⟩ (Nat.le_of_ble_eq_true rfl) (fun r13 _ => ?_)
      refine g_istore (L' := [(7, .int r13), (0, .ref 0), (1, .int y1), (2, .int y2), (3, .int y3), (4, .int y4), (5, .int y5), (6, .int y6)]) hX (dc_X11_most 42 rfl) (by decide) rfl ?_
      refine g_iload hX (dc_X11_most 43 rfl) 0 rfl ?_
      refine g_iload hX (dc_X11_most 44 rfl) 5 rfl ?_
      refine g_icmp_ge (tgt := 100) hX (dc_X11_most 45 rfl) (by decide) (fun h14 => ?_) (fun h14 => ?_)
      · exact g_sub [1, 2, 3, 4, 5, 6, 7] rfl (c_X11_most_100 hX hO hΩ σ _ hk63 (y1) (y2) (y3) (y4) (y5) (y6))
      · refine g_iload hX (dc_X11_most 46 rfl) 0 rfl ?_
        refine g_istore (L' := [(4, .int r13), (7, .int r13), (0, .ref 0), (1, .int y1), (2, .int y2), (3, .int y3), (5, .int y5), (6, .int y6)]) hX (dc_X11_most 47 rfl) (by decide) rfl ?_
        refine g_iload hX (dc_X11_most 48 rfl) 7 rfl ?_
        refine g_istore (L' := [(5, .int y6), (4, .int r13), (7, .int r13), (0, .ref 0), (1, .int y1), (2, .int y2), (3, .int y3), (6, .int y6)]) hX (dc_X11_most 49 rfl) (by decide) rfl ?_
        exact g_sub [3, 4, 5, 6, 1, 0, 7] rfl (c_X11_most_100 hX hO hΩ σ _ hk63 (y1) (y2) (y3) (r13) (y6) (y6))
def b_X11_most_29     (σ : MS) : Option (Int32) := some (-1 : Int32)
set_option maxHeartbeats 4000000 in
set_option maxRecDepth 20000 in
theorem c_X11_most_29 {X : CX} {Ω : OM} (hX : CF X Ω RX11 cX11_most 8 (some .int) rm_X11_most) (hO : OKO Ω) (hΩ : oSH Ω = SHX)   (σ : MS)      : GE X Ω 8 0 0 (emPI σ) 0 0 29 [] [] σ (b_X11_most_29  σ) := by
  unfold b_X11_most_29
  refine g_iconst (w := (-1 : Int32)) hX (dc_X11_most 13 rfl) (by decide) ?_
  exact g_iret hX (dc_X11_most 14 rfl) rfl rfl (Nat.le_refl _) (Nat.le_refl _)
def b_X11_most_0   (x1 : Int32) (x2 : Int32)  (σ : MS) : Option (Int32) := (if (sI σ 23 0) = 0 then (b_X11_most_29 σ) else (f_X11_isPlan x1).bind (fun r16 => (if r16 = 0 then (b_X11_most_29 σ) else (if x2 < 0 then (b_X11_most_29 σ) else (if x2 ≤ (1 : Int32) then (f_X3_handsAwakeAt (sI σ 35 5) σ).bind (fun r20 => (b_X11_most_63 FU (x1) (x2) ((sI σ 35 5)) (r20) ((sI σ 35 5)) (((sI σ 35 5) + (1 : Int32))) σ)) else (b_X11_most_29 σ))))))
set_option maxHeartbeats 4000000 in
set_option maxRecDepth 20000 in
theorem c_X11_most_0 {X : CX} {Ω : OM} (hX : CF X Ω RX11 cX11_most 8 (some .int) rm_X11_most) (hO : OKO Ω) (hΩ : oSH Ω = SHX)   (σ : MS)  (x1 : Int32) (x2 : Int32)    : GE X Ω 8 0 0 (emPI σ) 0 0 0 [(0, .ref 0), (1, .int x1), (2, .int x2)] [] σ (b_X11_most_0  x1 x2 σ) := by
  unfold b_X11_most_0
  refine g_aload_n hX (dc_X11_most 0 rfl) rfl 0 rfl ?_
  refine g_getF (q := 22) hX (dc_X11_most 1 rfl) fl_X11_41 (by decide) rfl (stS hΩ 0 rfl) rfl ?_
  refine g_getF (q := 23) hX (dc_X11_most 2 rfl) fl_X11_51 (by decide) rfl (stS hΩ 22 rfl) rfl ?_
  refine g_getI hX (dc_X11_most 3 rfl) fl_X11_220 (by decide) rfl (stS hΩ 23 rfl) ?_
  refine g_if_eq (tgt := 29) hX (dc_X11_most 4 rfl) (by decide) (fun h15 => ?_) (fun h15 => ?_)
  · exact g_sub [] rfl (c_X11_most_29 hX hO hΩ σ)
  · refine g_iload_n hX (dc_X11_most 5 rfl) rfl 1 rfl ?_
    refine gS_PI (As := [.int x1]) (st := []) hX (dc_X11_most 6 rfl) ml_X11_270 (con_X11_isPlan hO hΩ x1 σ) rfl rfl ⟨by decide, by decide⟩ ⟨rfl, rfl⟩ ⟨Nat.zero_le _, Nat.zero_le _⟩ (Nat.le_of_ble_eq_true rfl) (fun r16 _ => ?_)
    refine g_if_eq (tgt := 29) hX (dc_X11_most 7 rfl) (by decide) (fun h17 => ?_) (fun h17 => ?_)
    · exact g_sub [] rfl (c_X11_most_29 hX hO hΩ σ)
    · refine g_iload_n hX (dc_X11_most 8 rfl) rfl 2 rfl ?_
      refine g_if_lt (tgt := 29) hX (dc_X11_most 9 rfl) (by decide) (fun h18 => ?_) (fun h18 => ?_)
      · exact g_sub [] rfl (c_X11_most_29 hX hO hΩ σ)
      · refine g_iload_n hX (dc_X11_most 10 rfl) rfl 2 rfl ?_
        refine g_iconst (w := (1 : Int32)) hX (dc_X11_most 11 rfl) (by decide) ?_
        refine g_icmp_le (tgt := 31) hX (dc_X11_most 12 rfl) (by decide) (fun h19 => ?_) (fun h19 => ?_)
        · refine g_aload_n hX (dc_X11_most 15 rfl) rfl 0 rfl ?_
          refine g_getF (q := 22) hX (dc_X11_most 16 rfl) fl_X11_41 (by decide) rfl (stS hΩ 0 rfl) rfl ?_
          refine g_getF (q := 35) hX (dc_X11_most 17 rfl) fl_X11_140 (by decide) rfl (stS hΩ 22 rfl) rfl ?_
          refine g_getI hX (dc_X11_most 18 rfl) fl_X11_192 (by decide) rfl (stS hΩ 35 rfl) ?_
          refine g_istore_n (L' := [(3, .int (sI σ 35 5)), (0, .ref 0), (1, .int x1), (2, .int x2)]) hX (dc_X11_most 19 rfl) rfl (by decide) rfl ?_
          refine g_aload_n hX (dc_X11_most 20 rfl) rfl 1 rfl ?_
          refine g_getF (q := 22) hX (dc_X11_most 21 rfl) fl_X11_41 (by decide) rfl (stS hΩ 0 rfl) rfl ?_
          refine g_getF (q := 23) hX (dc_X11_most 22 rfl) fl_X11_51 (by decide) rfl (stS hΩ 22 rfl) rfl ?_
          refine g_iload_n hX (dc_X11_most 23 rfl) rfl 0 rfl ?_
          refine gV_PI (As := [.int (sI σ 35 5)]) (st := []) hX (dc_X11_most 24 rfl) ml_X11_292 (con_X3_handsAwakeAt hO hΩ (sI σ 35 5) σ) (stS hΩ 23 rfl) rfl rfl ⟨by decide, by decide⟩ ⟨rfl, rfl⟩ ⟨Nat.zero_le _, Nat.zero_le _⟩ (Nat.le_of_ble_eq_true rfl) (fun r20 _ => ?_)
          refine g_istore (L' := [(4, .int r20), (3, .int (sI σ 35 5)), (0, .ref 0), (1, .int x1), (2, .int x2)]) hX (dc_X11_most 25 rfl) (by decide) rfl ?_
          refine g_iload_n hX (dc_X11_most 26 rfl) rfl 1 rfl ?_
          refine g_istore (L' := [(5, .int (sI σ 35 5)), (4, .int r20), (3, .int (sI σ 35 5)), (0, .ref 0), (1, .int x1), (2, .int x2)]) hX (dc_X11_most 27 rfl) (by decide) rfl ?_
          refine g_iload_n hX (dc_X11_most 28 rfl) rfl 2 rfl ?_
          refine g_iconst (w := (1 : Int32)) hX (dc_X11_most 29 rfl) (by decide) ?_
          refine g_iadd hX (dc_X11_most 30 rfl) ?_
          refine g_istore (L' := [(6, .int ((sI σ 35 5) + (1 : Int32))), (5, .int (sI σ 35 5)), (4, .int r20), (3, .int (sI σ 35 5)), (0, .ref 0), (1, .int x1), (2, .int x2)]) hX (dc_X11_most 31 rfl) (by decide) rfl ?_
          exact g_sub [4, 5, 6, 3, 2, 1, 0] rfl (c_X11_most_63 hX hO hΩ σ FU (x1) (x2) ((sI σ 35 5)) (r20) ((sI σ 35 5)) (((sI σ 35 5) + (1 : Int32))))
        · exact g_sub [] rfl (c_X11_most_29 hX hO hΩ σ)
def f_X11_most (x1 : Int32) (x2 : Int32) (σ : MS) : Option (Int32) := b_X11_most_0  x1 x2 σ
theorem con_X11_most {Ω : OM} (hO : OKO Ω) (hΩ : oSH Ω = SHX) (x1 : Int32) (x2 : Int32) (σ : MS)  : Con Ω yX11_most cX11_most 8 (some .int) rm_X11_most (emPI σ) [.ref 0, .int x1, .int x2] σ (f_X11_most x1 x2 σ) :=
  con_of hO (by decide +kernel) (Nat.le_of_ble_eq_true rfl) rfl (fun X hX _ => c_X11_most_0 hX hO hΩ   σ x1 x2)
def it_X11_worksLying : List (Nat × Instr × Nat × Nat) := [(0, .iconst 0, 1, 1), (1, .istore_n 2, 1, 2), (2, .iconst 0, 1, 3), (3, .istore_n 3, 1, 4), (4, .iload_n 3, 1, 5), (5, .aload_n 0, 1, 6), (6, .getfield 41, 3, 9), (9, .getfield 51, 3, 12), (12, .getfield 109, 3, 15), (15, .if_icmp .ge 44, 3, 18), (18, .aload_n 0, 1, 19), (19, .getfield 41, 3, 22), (22, .getfield 51, 3, 25), (25, .getfield 165, 3, 28), (28, .iload_n 3, 1, 29), (29, .iaload, 1, 30), (30, .iload_n 1, 1, 31), (31, .if_icmp .ne 22, 3, 34), (34, .aload_n 0, 1, 35), (35, .getfield 41, 3, 38), (38, .getfield 140, 3, 41), (41, .getfield 168, 3, 44), (44, .iload_n 3, 1, 45), (45, .iaload, 1, 46), (46, .iconst (-1), 1, 47), (47, .if_icmp .ne 6, 3, 50), (50, .iinc 2 1, 3, 53), (53, .iinc 3 1, 3, 56), (56, .goto (-52), 3, 59), (59, .iload_n 2, 1, 60), (60, .ireturn, 1, 61)]
theorem id_X11_worksLying : ∀ q ∈ it_X11_worksLying, decode cX11_worksLying q.1 = .ok (q.2.1, q.2.2.1) ∧ q.1 + q.2.2.1 = q.2.2.2 := by decide +kernel
theorem dc_X11_worksLying {pc : Nat} {i : Instr} {n pc' : Nat} (j : Nat) (h : it_X11_worksLying[j]? = some (pc, i, n, pc')) : Dc cX11_worksLying pc i n pc' := dc_of id_X11_worksLying j h
abbrev rm_X11_worksLying : Room := { frames := 0, cells := 0, slots := 0, locals := 0 }
def b_X11_worksLying_53  (k4 : Int32 → Int32 → Int32 → MS → Option (Int32))  (y1 : Int32) (y2 : Int32) (y3 : Int32) (σ : MS) : Option (Int32) := (k4 (y1) (y2) ((y3 + (1 : Int32))) σ)
set_option maxHeartbeats 4000000 in
set_option maxRecDepth 20000 in
theorem c_X11_worksLying_53 {X : CX} {Ω : OM} (hX : CF X Ω RX11 cX11_worksLying 4 (some .int) rm_X11_worksLying) (hO : OKO Ω) (hΩ : oSH Ω = SHX)   (σ : MS) (k4 : Int32 → Int32 → Int32 → MS → Option (Int32)) (hk4 : ∀ (y1 : Int32) (y2 : Int32) (y3 : Int32), GE X Ω 4 0 0 (emPI σ) 0 0 4 [(0, .ref 0), (1, .int y1), (2, .int y2), (3, .int y3)] [] σ (k4 y1 y2 y3 σ))  (y1 : Int32) (y2 : Int32) (y3 : Int32)   : GE X Ω 4 0 0 (emPI σ) 0 0 53 [(0, .ref 0), (1, .int y1), (2, .int y2), (3, .int y3)] [] σ (b_X11_worksLying_53  k4 y1 y2 y3 σ) := by
  unfold b_X11_worksLying_53
  refine g_iinc (w := (y3 + (1 : Int32))) (L' := [(3, .int (y3 + (1 : Int32))), (0, .ref 0), (1, .int y1), (2, .int y2)]) hX (dc_X11_worksLying 27 rfl) 3 rfl rfl (by decide) rfl ?_
  refine g_goto (tgt := 4) hX (dc_X11_worksLying 28 rfl) (by decide) ?_
  exact g_sub [1, 2, 3, 0] rfl (hk4 (y1) (y2) ((y3 + (1 : Int32))) )
def b_X11_worksLying_4   : Nat → Int32 → Int32 → Int32 → MS → Option (Int32)
  | 0, _, _, _, _ => none
  | n + 1, y1, y2, y3, σ => (if (sI σ 23 4) ≤ y3 then some y2 else chk (inb y3 6) ((if (sI σ 29 (ix y3)) = y1 then chk (inb y3 6) ((if (sI σ 36 (ix y3)) = (-1 : Int32) then (b_X11_worksLying_53 (b_X11_worksLying_4  n) (y1) ((y2 + (1 : Int32))) (y3) σ) else (b_X11_worksLying_53 (b_X11_worksLying_4  n) (y1) (y2) (y3) σ))) else (b_X11_worksLying_53 (b_X11_worksLying_4  n) (y1) (y2) (y3) σ))))
set_option maxHeartbeats 4000000 in
set_option maxRecDepth 20000 in
theorem c_X11_worksLying_4 {X : CX} {Ω : OM} (hX : CF X Ω RX11 cX11_worksLying 4 (some .int) rm_X11_worksLying) (hO : OKO Ω) (hΩ : oSH Ω = SHX)   (σ : MS)  : ∀ (n : Nat) (y1 : Int32) (y2 : Int32) (y3 : Int32)  , GE X Ω 4 0 0 (emPI σ) 0 0 4 [(0, .ref 0), (1, .int y1), (2, .int y2), (3, .int y3)] [] σ (b_X11_worksLying_4  n y1 y2 y3 σ)
  | 0, _, _, _ => g_none
  | n + 1, y1, y2, y3 => by
    have hk4 := c_X11_worksLying_4 hX hO hΩ  σ n
    unfold b_X11_worksLying_4
    refine g_iload_n hX (dc_X11_worksLying 4 rfl) rfl 3 rfl ?_
    refine g_aload_n hX (dc_X11_worksLying 5 rfl) rfl 0 rfl ?_
    refine g_getF (q := 22) hX (dc_X11_worksLying 6 rfl) fl_X11_41 (by decide) rfl (stS hΩ 0 rfl) rfl ?_
    refine g_getF (q := 23) hX (dc_X11_worksLying 7 rfl) fl_X11_51 (by decide) rfl (stS hΩ 22 rfl) rfl ?_
    refine g_getI hX (dc_X11_worksLying 8 rfl) fl_X11_109 (by decide) rfl (stS hΩ 23 rfl) ?_
    refine g_icmp_ge (tgt := 59) hX (dc_X11_worksLying 9 rfl) (by decide) (fun h6 => ?_) (fun h6 => ?_)
    · refine g_iload_n hX (dc_X11_worksLying 29 rfl) rfl 2 rfl ?_
      exact g_iret hX (dc_X11_worksLying 30 rfl) rfl rfl (Nat.le_refl _) (Nat.le_refl _)
    · refine g_aload_n hX (dc_X11_worksLying 10 rfl) rfl 0 rfl ?_
      refine g_getF (q := 22) hX (dc_X11_worksLying 11 rfl) fl_X11_41 (by decide) rfl (stS hΩ 0 rfl) rfl ?_
      refine g_getF (q := 23) hX (dc_X11_worksLying 12 rfl) fl_X11_51 (by decide) rfl (stS hΩ 22 rfl) rfl ?_
      refine g_getF (q := 29) hX (dc_X11_worksLying 13 rfl) fl_X11_165 (by decide) rfl (stS hΩ 23 rfl) rfl ?_
      refine g_iload_n hX (dc_X11_worksLying 14 rfl) rfl 3 rfl ?_
      refine g_chk (fun hc7 => ?_)
      refine g_iald hX (dc_X11_worksLying 15 rfl) (stS hΩ 29 rfl) hc7 rfl ?_
      refine g_iload_n hX (dc_X11_worksLying 16 rfl) rfl 1 rfl ?_
      refine g_icmp_ne (tgt := 53) hX (dc_X11_worksLying 17 rfl) (by decide) (fun h8 => ?_) (fun h8 => ?_)
      · refine g_aload_n hX (dc_X11_worksLying 18 rfl) rfl 0 rfl ?_
        refine g_getF (q := 22) hX (dc_X11_worksLying 19 rfl) fl_X11_41 (by decide) rfl (stS hΩ 0 rfl) rfl ?_
        refine g_getF (q := 35) hX (dc_X11_worksLying 20 rfl) fl_X11_140 (by decide) rfl (stS hΩ 22 rfl) rfl ?_
        refine g_getF (q := 36) hX (dc_X11_worksLying 21 rfl) fl_X11_168 (by decide) rfl (stS hΩ 35 rfl) rfl ?_
        refine g_iload_n hX (dc_X11_worksLying 22 rfl) rfl 3 rfl ?_
        refine g_chk (fun hc9 => ?_)
        refine g_iald hX (dc_X11_worksLying 23 rfl) (stS hΩ 36 rfl) hc9 rfl ?_
        refine g_iconst (w := (-1 : Int32)) hX (dc_X11_worksLying 24 rfl) (by decide) ?_
        refine g_icmp_ne (tgt := 53) hX (dc_X11_worksLying 25 rfl) (by decide) (fun h10 => ?_) (fun h10 => ?_)
        · refine g_iinc (w := (y2 + (1 : Int32))) (L' := [(2, .int (y2 + (1 : Int32))), (0, .ref 0), (1, .int y1), (3, .int y3)]) hX (dc_X11_worksLying 26 rfl) 2 rfl rfl (by decide) rfl ?_
          exact g_sub [1, 2, 0, 3] rfl (c_X11_worksLying_53 hX hO hΩ σ _ hk4 (y1) ((y2 + (1 : Int32))) (y3))
        · exact g_sub [0, 1, 2, 3] rfl (c_X11_worksLying_53 hX hO hΩ σ _ hk4 (y1) (y2) (y3))
      · exact g_sub [0, 1, 2, 3] rfl (c_X11_worksLying_53 hX hO hΩ σ _ hk4 (y1) (y2) (y3))
def b_X11_worksLying_0   (x1 : Int32)  (σ : MS) : Option (Int32) := (b_X11_worksLying_4 FU (x1) ((0 : Int32)) ((0 : Int32)) σ)
set_option maxHeartbeats 4000000 in
set_option maxRecDepth 20000 in
theorem c_X11_worksLying_0 {X : CX} {Ω : OM} (hX : CF X Ω RX11 cX11_worksLying 4 (some .int) rm_X11_worksLying) (hO : OKO Ω) (hΩ : oSH Ω = SHX)   (σ : MS)  (x1 : Int32)    : GE X Ω 4 0 0 (emPI σ) 0 0 0 [(0, .ref 0), (1, .int x1)] [] σ (b_X11_worksLying_0  x1 σ) := by
  unfold b_X11_worksLying_0
  refine g_iconst (w := (0 : Int32)) hX (dc_X11_worksLying 0 rfl) (by decide) ?_
  refine g_istore_n (L' := [(2, .int (0 : Int32)), (0, .ref 0), (1, .int x1)]) hX (dc_X11_worksLying 1 rfl) rfl (by decide) rfl ?_
  refine g_iconst (w := (0 : Int32)) hX (dc_X11_worksLying 2 rfl) (by decide) ?_
  refine g_istore_n (L' := [(3, .int (0 : Int32)), (2, .int (0 : Int32)), (0, .ref 0), (1, .int x1)]) hX (dc_X11_worksLying 3 rfl) rfl (by decide) rfl ?_
  exact g_sub [2, 3, 1, 0] rfl (c_X11_worksLying_4 hX hO hΩ σ FU (x1) ((0 : Int32)) ((0 : Int32)))
def f_X11_worksLying (x1 : Int32) (σ : MS) : Option (Int32) := b_X11_worksLying_0  x1 σ
theorem con_X11_worksLying {Ω : OM} (hO : OKO Ω) (hΩ : oSH Ω = SHX) (x1 : Int32) (σ : MS)  : Con Ω yX11_worksLying cX11_worksLying 4 (some .int) rm_X11_worksLying (emPI σ) [.ref 0, .int x1] σ (f_X11_worksLying x1 σ) :=
  con_of hO (by decide +kernel) (Nat.le_of_ble_eq_true rfl) rfl (fun X hX _ => c_X11_worksLying_0 hX hO hΩ   σ x1)
def it_X11_peopleWhoHave : List (Nat × Instr × Nat × Nat) := [(0, .iconst 0, 1, 1), (1, .istore_n 2, 1, 2), (2, .iconst 0, 1, 3), (3, .istore_n 3, 1, 4), (4, .iload_n 3, 1, 5), (5, .aload_n 0, 1, 6), (6, .getfield 41, 3, 9), (9, .getfield 51, 3, 12), (12, .getfield 189, 3, 15), (15, .if_icmp .ge 28, 3, 18), (18, .aload_n 0, 1, 19), (19, .getfield 41, 3, 22), (22, .getfield 140, 3, 25), (25, .getfield 143, 3, 28), (28, .iload_n 3, 1, 29), (29, .iaload, 1, 30), (30, .iload_n 1, 1, 31), (31, .if_icmp .lt 6, 3, 34), (34, .iinc 2 1, 3, 37), (37, .iinc 3 1, 3, 40), (40, .goto (-36), 3, 43), (43, .iload_n 2, 1, 44), (44, .ireturn, 1, 45)]
theorem id_X11_peopleWhoHave : ∀ q ∈ it_X11_peopleWhoHave, decode cX11_peopleWhoHave q.1 = .ok (q.2.1, q.2.2.1) ∧ q.1 + q.2.2.1 = q.2.2.2 := by decide +kernel
theorem dc_X11_peopleWhoHave {pc : Nat} {i : Instr} {n pc' : Nat} (j : Nat) (h : it_X11_peopleWhoHave[j]? = some (pc, i, n, pc')) : Dc cX11_peopleWhoHave pc i n pc' := dc_of id_X11_peopleWhoHave j h
abbrev rm_X11_peopleWhoHave : Room := { frames := 0, cells := 0, slots := 0, locals := 0 }
def b_X11_peopleWhoHave_37  (k4 : Int32 → Int32 → Int32 → MS → Option (Int32))  (y1 : Int32) (y2 : Int32) (y3 : Int32) (σ : MS) : Option (Int32) := (k4 (y1) (y2) ((y3 + (1 : Int32))) σ)
set_option maxHeartbeats 4000000 in
set_option maxRecDepth 20000 in
theorem c_X11_peopleWhoHave_37 {X : CX} {Ω : OM} (hX : CF X Ω RX11 cX11_peopleWhoHave 4 (some .int) rm_X11_peopleWhoHave) (hO : OKO Ω) (hΩ : oSH Ω = SHX)   (σ : MS) (k4 : Int32 → Int32 → Int32 → MS → Option (Int32)) (hk4 : ∀ (y1 : Int32) (y2 : Int32) (y3 : Int32), GE X Ω 4 0 0 (emPI σ) 0 0 4 [(0, .ref 0), (1, .int y1), (2, .int y2), (3, .int y3)] [] σ (k4 y1 y2 y3 σ))  (y1 : Int32) (y2 : Int32) (y3 : Int32)   : GE X Ω 4 0 0 (emPI σ) 0 0 37 [(0, .ref 0), (1, .int y1), (2, .int y2), (3, .int y3)] [] σ (b_X11_peopleWhoHave_37  k4 y1 y2 y3 σ) := by
  unfold b_X11_peopleWhoHave_37
  refine g_iinc (w := (y3 + (1 : Int32))) (L' := [(3, .int (y3 + (1 : Int32))), (0, .ref 0), (1, .int y1), (2, .int y2)]) hX (dc_X11_peopleWhoHave 19 rfl) 3 rfl rfl (by decide) rfl ?_
  refine g_goto (tgt := 4) hX (dc_X11_peopleWhoHave 20 rfl) (by decide) ?_
  exact g_sub [1, 2, 3, 0] rfl (hk4 (y1) (y2) ((y3 + (1 : Int32))) )
def b_X11_peopleWhoHave_4   : Nat → Int32 → Int32 → Int32 → MS → Option (Int32)
  | 0, _, _, _, _ => none
  | n + 1, y1, y2, y3, σ => (if (sI σ 23 3) ≤ y3 then some y2 else chk (inb y3 4) ((if (sI σ 38 (ix y3)) < y1 then (b_X11_peopleWhoHave_37 (b_X11_peopleWhoHave_4  n) (y1) (y2) (y3) σ) else (b_X11_peopleWhoHave_37 (b_X11_peopleWhoHave_4  n) (y1) ((y2 + (1 : Int32))) (y3) σ))))
set_option maxHeartbeats 4000000 in
set_option maxRecDepth 20000 in
theorem c_X11_peopleWhoHave_4 {X : CX} {Ω : OM} (hX : CF X Ω RX11 cX11_peopleWhoHave 4 (some .int) rm_X11_peopleWhoHave) (hO : OKO Ω) (hΩ : oSH Ω = SHX)   (σ : MS)  : ∀ (n : Nat) (y1 : Int32) (y2 : Int32) (y3 : Int32)  , GE X Ω 4 0 0 (emPI σ) 0 0 4 [(0, .ref 0), (1, .int y1), (2, .int y2), (3, .int y3)] [] σ (b_X11_peopleWhoHave_4  n y1 y2 y3 σ)
  | 0, _, _, _ => g_none
  | n + 1, y1, y2, y3 => by
    have hk4 := c_X11_peopleWhoHave_4 hX hO hΩ  σ n
    unfold b_X11_peopleWhoHave_4
    refine g_iload_n hX (dc_X11_peopleWhoHave 4 rfl) rfl 3 rfl ?_
    refine g_aload_n hX (dc_X11_peopleWhoHave 5 rfl) rfl 0 rfl ?_
    refine g_getF (q := 22) hX (dc_X11_peopleWhoHave 6 rfl) fl_X11_41 (by decide) rfl (stS hΩ 0 rfl) rfl ?_
    refine g_getF (q := 23) hX (dc_X11_peopleWhoHave 7 rfl) fl_X11_51 (by decide) rfl (stS hΩ 22 rfl) rfl ?_
    refine g_getI hX (dc_X11_peopleWhoHave 8 rfl) fl_X11_189 (by decide) rfl (stS hΩ 23 rfl) ?_
    refine g_icmp_ge (tgt := 43) hX (dc_X11_peopleWhoHave 9 rfl) (by decide) (fun h4 => ?_) (fun h4 => ?_)
    · refine g_iload_n hX (dc_X11_peopleWhoHave 21 rfl) rfl 2 rfl ?_
      exact g_iret hX (dc_X11_peopleWhoHave 22 rfl) rfl rfl (Nat.le_refl _) (Nat.le_refl _)
    · refine g_aload_n hX (dc_X11_peopleWhoHave 10 rfl) rfl 0 rfl ?_
      refine g_getF (q := 22) hX (dc_X11_peopleWhoHave 11 rfl) fl_X11_41 (by decide) rfl (stS hΩ 0 rfl) rfl ?_
      refine g_getF (q := 35) hX (dc_X11_peopleWhoHave 12 rfl) fl_X11_140 (by decide) rfl (stS hΩ 22 rfl) rfl ?_
      refine g_getF (q := 38) hX (dc_X11_peopleWhoHave 13 rfl) fl_X11_143 (by decide) rfl (stS hΩ 35 rfl) rfl ?_
      refine g_iload_n hX (dc_X11_peopleWhoHave 14 rfl) rfl 3 rfl ?_
      refine g_chk (fun hc5 => ?_)
      refine g_iald hX (dc_X11_peopleWhoHave 15 rfl) (stS hΩ 38 rfl) hc5 rfl ?_
      refine g_iload_n hX (dc_X11_peopleWhoHave 16 rfl) rfl 1 rfl ?_
      refine g_icmp_lt (tgt := 37) hX (dc_X11_peopleWhoHave 17 rfl) (by decide) (fun h6 => ?_) (fun h6 => ?_)
      · exact g_sub [0, 1, 2, 3] rfl (c_X11_peopleWhoHave_37 hX hO hΩ σ _ hk4 (y1) (y2) (y3))
      · refine g_iinc (w := (y2 + (1 : Int32))) (L' := [(2, .int (y2 + (1 : Int32))), (0, .ref 0), (1, .int y1), (3, .int y3)]) hX (dc_X11_peopleWhoHave 18 rfl) 2 rfl rfl (by decide) rfl ?_
        exact g_sub [1, 2, 0, 3] rfl (c_X11_peopleWhoHave_37 hX hO hΩ σ _ hk4 (y1) ((y2 + (1 : Int32))) (y3))
def b_X11_peopleWhoHave_0   (x1 : Int32)  (σ : MS) : Option (Int32) := (b_X11_peopleWhoHave_4 FU (x1) ((0 : Int32)) ((0 : Int32)) σ)
set_option maxHeartbeats 4000000 in
set_option maxRecDepth 20000 in
theorem c_X11_peopleWhoHave_0 {X : CX} {Ω : OM} (hX : CF X Ω RX11 cX11_peopleWhoHave 4 (some .int) rm_X11_peopleWhoHave) (hO : OKO Ω) (hΩ : oSH Ω = SHX)   (σ : MS)  (x1 : Int32)    : GE X Ω 4 0 0 (emPI σ) 0 0 0 [(0, .ref 0), (1, .int x1)] [] σ (b_X11_peopleWhoHave_0  x1 σ) := by
  unfold b_X11_peopleWhoHave_0
  refine g_iconst (w := (0 : Int32)) hX (dc_X11_peopleWhoHave 0 rfl) (by decide) ?_
  refine g_istore_n (L' := [(2, .int (0 : Int32)), (0, .ref 0), (1, .int x1)]) hX (dc_X11_peopleWhoHave 1 rfl) rfl (by decide) rfl ?_
  refine g_iconst (w := (0 : Int32)) hX (dc_X11_peopleWhoHave 2 rfl) (by decide) ?_
  refine g_istore_n (L' := [(3, .int (0 : Int32)), (2, .int (0 : Int32)), (0, .ref 0), (1, .int x1)]) hX (dc_X11_peopleWhoHave 3 rfl) rfl (by decide) rfl ?_
  exact g_sub [2, 3, 1, 0] rfl (c_X11_peopleWhoHave_4 hX hO hΩ σ FU (x1) ((0 : Int32)) ((0 : Int32)))
def f_X11_peopleWhoHave (x1 : Int32) (σ : MS) : Option (Int32) := b_X11_peopleWhoHave_0  x1 σ
theorem con_X11_peopleWhoHave {Ω : OM} (hO : OKO Ω) (hΩ : oSH Ω = SHX) (x1 : Int32) (σ : MS)  : Con Ω yX11_peopleWhoHave cX11_peopleWhoHave 4 (some .int) rm_X11_peopleWhoHave (emPI σ) [.ref 0, .int x1] σ (f_X11_peopleWhoHave x1 σ) :=
  con_of hO (by decide +kernel) (Nat.le_of_ble_eq_true rfl) rfl (fun X hX _ => c_X11_peopleWhoHave_0 hX hO hΩ   σ x1)
def it_X11_tariff : List (Nat × Instr × Nat × Nat) := [(0, .aload_n 0, 1, 1), (1, .iload_n 1, 1, 2), (2, .invokevirtual 128, 3, 5), (5, .ifCond .eq 12, 3, 8), (8, .iload_n 2, 1, 9), (9, .ifCond .lt 8, 3, 12), (12, .iload_n 2, 1, 13), (13, .iconst 1, 1, 14), (14, .if_icmp .le 5, 3, 17), (17, .iconst (-1), 1, 18), (18, .ireturn, 1, 19), (19, .aload_n 0, 1, 20), (20, .iload_n 1, 1, 21), (21, .invokevirtual 308, 3, 24), (24, .istore_n 3, 1, 25), (25, .iconst 0, 1, 26), (26, .istore 4, 2, 28), (28, .iconst 0, 1, 29), (29, .istore 5, 2, 31), (31, .iconst 1, 1, 32), (32, .istore 6, 2, 34), (34, .iload 6, 2, 36), (36, .bipush 99, 2, 38), (38, .if_icmp .gt 39, 3, 41), (41, .iload 6, 2, 43), (43, .iload_n 3, 1, 44), (44, .aload_n 0, 1, 45), (45, .iload 6, 2, 47), (47, .invokevirtual 311, 3, 50), (50, .invokestatic 314, 3, 53), (53, .imul, 1, 54), (54, .istore 7, 2, 56), (56, .iload 7, 2, 58), (58, .iload 5, 2, 60), (60, .if_icmp .le 11, 3, 63), (63, .iload 7, 2, 65), (65, .istore 5, 2, 67), (67, .iload 6, 2, 69), (69, .istore 4, 2, 71), (71, .iinc 6 1, 3, 74), (74, .goto (-40), 3, 77), (77, .iload_n 2, 1, 78), (78, .ifCond .ne 8, 3, 81), (81, .iload 4, 2, 83), (83, .goto 5, 3, 86), (86, .iload 5, 2, 88), (88, .ireturn, 1, 89)]
theorem id_X11_tariff : ∀ q ∈ it_X11_tariff, decode cX11_tariff q.1 = .ok (q.2.1, q.2.2.1) ∧ q.1 + q.2.2.1 = q.2.2.2 := by decide +kernel
theorem dc_X11_tariff {pc : Nat} {i : Instr} {n pc' : Nat} (j : Nat) (h : it_X11_tariff[j]? = some (pc, i, n, pc')) : Dc cX11_tariff pc i n pc' := dc_of id_X11_tariff j h
abbrev rm_X11_tariff : Room := { frames := 1, cells := 0, slots := 0, locals := 23 }
def b_X11_tariff_88    (s0 : Int32) (σ : MS) : Option (Int32) := some s0
set_option maxHeartbeats 4000000 in
set_option maxRecDepth 20000 in
theorem c_X11_tariff_88 {X : CX} {Ω : OM} (hX : CF X Ω RX11 cX11_tariff 8 (some .int) rm_X11_tariff) (hO : OKO Ω) (hΩ : oSH Ω = SHX)   (σ : MS)   (s0 : Int32)   : GE X Ω 8 0 0 (emPI σ) 0 0 88 [] [.int s0] σ (b_X11_tariff_88  s0 σ) := by
  unfold b_X11_tariff_88
  exact g_iret hX (dc_X11_tariff 46 rfl) rfl rfl (Nat.le_refl _) (Nat.le_refl _)
def b_X11_tariff_71  (k34 : Int32 → Int32 → Int32 → Int32 → Int32 → MS → Option (Int32))  (y2 : Int32) (y3 : Int32) (y4 : Int32) (y5 : Int32) (y6 : Int32) (σ : MS) : Option (Int32) := (k34 (y2) (y3) (y4) (y5) ((y6 + (1 : Int32))) σ)
set_option maxHeartbeats 4000000 in
set_option maxRecDepth 20000 in
theorem c_X11_tariff_71 {X : CX} {Ω : OM} (hX : CF X Ω RX11 cX11_tariff 8 (some .int) rm_X11_tariff) (hO : OKO Ω) (hΩ : oSH Ω = SHX)   (σ : MS) (k34 : Int32 → Int32 → Int32 → Int32 → Int32 → MS → Option (Int32)) (hk34 : ∀ (y2 : Int32) (y3 : Int32) (y4 : Int32) (y5 : Int32) (y6 : Int32), GE X Ω 8 0 0 (emPI σ) 0 0 34 [(0, .ref 0), (2, .int y2), (3, .int y3), (4, .int y4), (5, .int y5), (6, .int y6)] [] σ (k34 y2 y3 y4 y5 y6 σ))  (y2 : Int32) (y3 : Int32) (y4 : Int32) (y5 : Int32) (y6 : Int32)   : GE X Ω 8 0 0 (emPI σ) 0 0 71 [(0, .ref 0), (2, .int y2), (3, .int y3), (4, .int y4), (5, .int y5), (6, .int y6)] [] σ (b_X11_tariff_71  k34 y2 y3 y4 y5 y6 σ) := by
  unfold b_X11_tariff_71
  refine g_iinc (w := (y6 + (1 : Int32))) (L' := [(6, .int (y6 + (1 : Int32))), (0, .ref 0), (2, .int y2), (3, .int y3), (4, .int y4), (5, .int y5)]) hX (dc_X11_tariff 39 rfl) 5 rfl rfl (by decide) rfl ?_
  refine g_goto (tgt := 34) hX (dc_X11_tariff 40 rfl) (by decide) ?_
  exact g_sub [1, 2, 3, 4, 5, 0] rfl (hk34 (y2) (y3) (y4) (y5) ((y6 + (1 : Int32))) )
def b_X11_tariff_34   : Nat → Int32 → Int32 → Int32 → Int32 → Int32 → MS → Option (Int32)
  | 0, _, _, _, _, _, _ => none
  | n + 1, y2, y3, y4, y5, y6, σ => (if (99 : Int32) < y6 then (if y2 = 0 then (b_X11_tariff_88 (y4) σ) else (b_X11_tariff_88 (y5) σ)) else (f_X11_peopleWhoHave y6 σ).bind (fun r13 => (f_J9_min_7cf53 y3 r13).bind (fun r14 => (if (y6 * r14) ≤ y5 then (b_X11_tariff_71 (b_X11_tariff_34  n) (y2) (y3) (y4) (y5) (y6) σ) else (b_X11_tariff_71 (b_X11_tariff_34  n) (y2) (y3) (y6) ((y6 * r14)) (y6) σ)))))
set_option maxHeartbeats 4000000 in
set_option maxRecDepth 20000 in
theorem c_X11_tariff_34 {X : CX} {Ω : OM} (hX : CF X Ω RX11 cX11_tariff 8 (some .int) rm_X11_tariff) (hO : OKO Ω) (hΩ : oSH Ω = SHX)   (σ : MS)  : ∀ (n : Nat) (y2 : Int32) (y3 : Int32) (y4 : Int32) (y5 : Int32) (y6 : Int32)  , GE X Ω 8 0 0 (emPI σ) 0 0 34 [(0, .ref 0), (2, .int y2), (3, .int y3), (4, .int y4), (5, .int y5), (6, .int y6)] [] σ (b_X11_tariff_34  n y2 y3 y4 y5 y6 σ)
  | 0, _, _, _, _, _ => g_none
  | n + 1, y2, y3, y4, y5, y6 => by
    have hk34 := c_X11_tariff_34 hX hO hΩ  σ n
    unfold b_X11_tariff_34
    refine g_iload hX (dc_X11_tariff 21 rfl) 5 rfl ?_
    refine g_bipush (w := (99 : Int32)) hX (dc_X11_tariff 22 rfl) (by decide) ?_
    refine g_icmp_gt (tgt := 77) hX (dc_X11_tariff 23 rfl) (by decide) (fun h11 => ?_) (fun h11 => ?_)
    · refine g_iload_n hX (dc_X11_tariff 41 rfl) rfl 1 rfl ?_
      refine g_if_ne (tgt := 86) hX (dc_X11_tariff 42 rfl) (by decide) (fun h12 => ?_) (fun h12 => ?_)
      · refine g_iload hX (dc_X11_tariff 43 rfl) 3 rfl ?_
        refine g_goto (tgt := 88) hX (dc_X11_tariff 44 rfl) (by decide) ?_
        exact g_sub [] rfl (c_X11_tariff_88 hX hO hΩ σ (y4))
      · refine g_iload hX (dc_X11_tariff 45 rfl) 4 rfl ?_
        exact g_sub [] rfl (c_X11_tariff_88 hX hO hΩ σ (y5))
    · refine g_iload hX (dc_X11_tariff 24 rfl) 5 rfl ?_
      refine g_iload_n hX (dc_X11_tariff 25 rfl) rfl 2 rfl ?_
      refine g_aload_n hX (dc_X11_tariff 26 rfl) rfl 0 rfl ?_
      refine g_iload hX (dc_X11_tariff 27 rfl) 5 rfl ?_
      refine gV_PI (As := [.int y6]) (st := [.int y3, .int y6]) hX (dc_X11_tariff 28 rfl) ml_X11_311 (con_X11_peopleWhoHave hO hΩ y6 σ) (stS hΩ 0 rfl) rfl rfl ⟨by decide, by decide⟩ ⟨rfl, rfl⟩ ⟨Nat.zero_le _, Nat.zero_le _⟩ (Nat.le_of_ble_eq_true rfl) (fun r13 _ => ?_)
      refine gS_PI (As := [.int y3, .int r13]) (st := [.int y6]) hX (dc_X11_tariff 29 rfl) ml_X11_314 (con_J9_min_7cf53 hO hΩ y3 r13 σ) rfl rfl ⟨by decide, by decide⟩ ⟨rfl, rfl⟩ ⟨Nat.zero_le _, Nat.zero_le _⟩ (Nat.le_of_ble_eq_true rfl) (fun r14 _ => ?_)
      refine g_imul hX (dc_X11_tariff 30 rfl) ?_
      refine g_istore (L' := [(7, .int (y6 * r14)), (0, .ref 0), (2, .int y2), (3, .int y3), (4, .int y4), (5, .int y5), (6, .int y6)]) hX (dc_X11_tariff 31 rfl) (by decide) rfl ?_
      refine g_iload hX (dc_X11_tariff 32 rfl) 0 rfl ?_
      refine g_iload hX (dc_X11_tariff 33 rfl) 5 rfl ?_
      refine g_icmp_le (tgt := 71) hX (dc_X11_tariff 34 rfl) (by decide) (fun h15 => ?_) (fun h15 => ?_)
      · exact g_sub [1, 2, 3, 4, 5, 6] rfl (c_X11_tariff_71 hX hO hΩ σ _ hk34 (y2) (y3) (y4) (y5) (y6))
      · refine g_iload hX (dc_X11_tariff 35 rfl) 0 rfl ?_
        refine g_istore (L' := [(5, .int (y6 * r14)), (7, .int (y6 * r14)), (0, .ref 0), (2, .int y2), (3, .int y3), (4, .int y4), (6, .int y6)]) hX (dc_X11_tariff 36 rfl) (by decide) rfl ?_
        refine g_iload hX (dc_X11_tariff 37 rfl) 6 rfl ?_
        refine g_istore (L' := [(4, .int y6), (5, .int (y6 * r14)), (7, .int (y6 * r14)), (0, .ref 0), (2, .int y2), (3, .int y3), (6, .int y6)]) hX (dc_X11_tariff 38 rfl) (by decide) rfl ?_
        exact g_sub [3, 4, 5, 0, 1, 6] rfl (c_X11_tariff_71 hX hO hΩ σ _ hk34 (y2) (y3) (y6) ((y6 * r14)) (y6))
def b_X11_tariff_17     (σ : MS) : Option (Int32) := some (-1 : Int32)
set_option maxHeartbeats 4000000 in
set_option maxRecDepth 20000 in
theorem c_X11_tariff_17 {X : CX} {Ω : OM} (hX : CF X Ω RX11 cX11_tariff 8 (some .int) rm_X11_tariff) (hO : OKO Ω) (hΩ : oSH Ω = SHX)   (σ : MS)      : GE X Ω 8 0 0 (emPI σ) 0 0 17 [] [] σ (b_X11_tariff_17  σ) := by
  unfold b_X11_tariff_17
  refine g_iconst (w := (-1 : Int32)) hX (dc_X11_tariff 9 rfl) (by decide) ?_
  exact g_iret hX (dc_X11_tariff 10 rfl) rfl rfl (Nat.le_refl _) (Nat.le_refl _)
def b_X11_tariff_0   (x1 : Int32) (x2 : Int32)  (σ : MS) : Option (Int32) := (f_X11_isKind x1 σ).bind (fun r16 => (if r16 = 0 then (b_X11_tariff_17 σ) else (if x2 < 0 then (b_X11_tariff_17 σ) else (if x2 ≤ (1 : Int32) then (f_X11_worksLying x1 σ).bind (fun r20 => (b_X11_tariff_34 FU (x2) (r20) ((0 : Int32)) ((0 : Int32)) ((1 : Int32)) σ)) else (b_X11_tariff_17 σ)))))
set_option maxHeartbeats 4000000 in
set_option maxRecDepth 20000 in
theorem c_X11_tariff_0 {X : CX} {Ω : OM} (hX : CF X Ω RX11 cX11_tariff 8 (some .int) rm_X11_tariff) (hO : OKO Ω) (hΩ : oSH Ω = SHX)   (σ : MS)  (x1 : Int32) (x2 : Int32)    : GE X Ω 8 0 0 (emPI σ) 0 0 0 [(0, .ref 0), (1, .int x1), (2, .int x2)] [] σ (b_X11_tariff_0  x1 x2 σ) := by
  unfold b_X11_tariff_0
  refine g_aload_n hX (dc_X11_tariff 0 rfl) rfl 0 rfl ?_
  refine g_iload_n hX (dc_X11_tariff 1 rfl) rfl 1 rfl ?_
  refine gV_PI (As := [.int x1]) (st := []) hX (dc_X11_tariff 2 rfl) ml_X11_128 (con_X11_isKind hO hΩ x1 σ) (stS hΩ 0 rfl) rfl rfl ⟨by decide, by decide⟩ ⟨rfl, rfl⟩ ⟨Nat.zero_le _, Nat.zero_le _⟩ (Nat.le_of_ble_eq_true rfl) (fun r16 _ => ?_)
  refine g_if_eq (tgt := 17) hX (dc_X11_tariff 3 rfl) (by decide) (fun h17 => ?_) (fun h17 => ?_)
  · exact g_sub [] rfl (c_X11_tariff_17 hX hO hΩ σ)
  · refine g_iload_n hX (dc_X11_tariff 4 rfl) rfl 2 rfl ?_
    refine g_if_lt (tgt := 17) hX (dc_X11_tariff 5 rfl) (by decide) (fun h18 => ?_) (fun h18 => ?_)
    · exact g_sub [] rfl (c_X11_tariff_17 hX hO hΩ σ)
    · refine g_iload_n hX (dc_X11_tariff 6 rfl) rfl 2 rfl ?_
      refine g_iconst (w := (1 : Int32)) hX (dc_X11_tariff 7 rfl) (by decide) ?_
      refine g_icmp_le (tgt := 19) hX (dc_X11_tariff 8 rfl) (by decide) (fun h19 => ?_) (fun h19 => ?_)
      · refine g_aload_n hX (dc_X11_tariff 11 rfl) rfl 0 rfl ?_
        refine g_iload_n hX (dc_X11_tariff 12 rfl) rfl 1 rfl ?_
        refine gV_PI (As := [.int x1]) (st := []) hX (dc_X11_tariff 13 rfl) ml_X11_308 (con_X11_worksLying hO hΩ x1 σ) (stS hΩ 0 rfl) rfl rfl ⟨by decide, by decide⟩ ⟨rfl, rfl⟩ ⟨Nat.zero_le _, Nat.zero_le _⟩ (Nat.le_of_ble_eq_true rfl) (fun r20 _ => ?_)
        refine g_istore_n (L' := [(3, .int r20), (0, .ref 0), (1, .int x1), (2, .int x2)]) hX (dc_X11_tariff 14 rfl) rfl (by decide) rfl ?_
        refine g_iconst (w := (0 : Int32)) hX (dc_X11_tariff 15 rfl) (by decide) ?_
        refine g_istore (L' := [(4, .int (0 : Int32)), (3, .int r20), (0, .ref 0), (1, .int x1), (2, .int x2)]) hX (dc_X11_tariff 16 rfl) (by decide) rfl ?_
        refine g_iconst (w := (0 : Int32)) hX (dc_X11_tariff 17 rfl) (by decide) ?_
        refine g_istore (L' := [(5, .int (0 : Int32)), (4, .int (0 : Int32)), (3, .int r20), (0, .ref 0), (1, .int x1), (2, .int x2)]) hX (dc_X11_tariff 18 rfl) (by decide) rfl ?_
        refine g_iconst (w := (1 : Int32)) hX (dc_X11_tariff 19 rfl) (by decide) ?_
        refine g_istore (L' := [(6, .int (1 : Int32)), (5, .int (0 : Int32)), (4, .int (0 : Int32)), (3, .int r20), (0, .ref 0), (1, .int x1), (2, .int x2)]) hX (dc_X11_tariff 20 rfl) (by decide) rfl ?_
        exact g_sub [4, 6, 3, 2, 1, 0] rfl (c_X11_tariff_34 hX hO hΩ σ FU (x2) (r20) ((0 : Int32)) ((0 : Int32)) ((1 : Int32)))
      · exact g_sub [] rfl (c_X11_tariff_17 hX hO hΩ σ)
def f_X11_tariff (x1 : Int32) (x2 : Int32) (σ : MS) : Option (Int32) := b_X11_tariff_0  x1 x2 σ
theorem con_X11_tariff {Ω : OM} (hO : OKO Ω) (hΩ : oSH Ω = SHX) (x1 : Int32) (x2 : Int32) (σ : MS)  : Con Ω yX11_tariff cX11_tariff 8 (some .int) rm_X11_tariff (emPI σ) [.ref 0, .int x1, .int x2] σ (f_X11_tariff x1 x2 σ) :=
  con_of hO (by decide +kernel) (Nat.le_of_ble_eq_true rfl) rfl (fun X hX _ => c_X11_tariff_0 hX hO hΩ   σ x1 x2)
def it_X11_watch : List (Nat × Instr × Nat × Nat) := [(0, .aload_n 0, 1, 1), (1, .getfield 41, 3, 4), (4, .getfield 51, 3, 7), (7, .getfield 220, 3, 10), (10, .ifCond .eq 13, 3, 13), (13, .iload_n 1, 1, 14), (14, .ifCond .lt 9, 3, 17), (17, .iload_n 1, 1, 18), (18, .bipush 24, 2, 20), (20, .if_icmp .lt 5, 3, 23), (23, .iconst (-1), 1, 24), (24, .ireturn, 1, 25), (25, .iconst 0, 1, 26), (26, .istore_n 2, 1, 27), (27, .iconst 0, 1, 28), (28, .istore_n 3, 1, 29), (29, .iload_n 3, 1, 30), (30, .iconst 4, 1, 31), (31, .if_icmp .gt 55, 3, 34), (34, .iconst 0, 1, 35), (35, .istore 4, 2, 37), (37, .iload 4, 2, 39), (39, .bipush 24, 2, 41), (41, .if_icmp .ge 39, 3, 44), (44, .aload_n 0, 1, 45), (45, .getfield 41, 3, 48), (48, .getfield 51, 3, 51), (51, .iload 4, 2, 53), (53, .invokevirtual 201, 3, 56), (56, .invokestatic 239, 3, 59), (59, .iload_n 3, 1, 60), (60, .if_icmp .ne 14, 3, 63), (63, .iload_n 2, 1, 64), (64, .iload_n 1, 1, 65), (65, .if_icmp .ne 6, 3, 68), (68, .iload 4, 2, 70), (70, .ireturn, 1, 71), (71, .iinc 2 1, 3, 74), (74, .iinc 4 1, 3, 77), (77, .goto (-40), 3, 80), (80, .iinc 3 1, 3, 83), (83, .goto (-54), 3, 86), (86, .iconst (-1), 1, 87), (87, .ireturn, 1, 88)]
theorem id_X11_watch : ∀ q ∈ it_X11_watch, decode cX11_watch q.1 = .ok (q.2.1, q.2.2.1) ∧ q.1 + q.2.2.1 = q.2.2.2 := by decide +kernel
theorem dc_X11_watch {pc : Nat} {i : Instr} {n pc' : Nat} (j : Nat) (h : it_X11_watch[j]? = some (pc, i, n, pc')) : Dc cX11_watch pc i n pc' := dc_of id_X11_watch j h
abbrev rm_X11_watch : Room := { frames := 3, cells := 0, slots := 0, locals := 67 }
def b_X11_watch_74  (k29 : Int32 → Int32 → Int32 → MS → Option (Int32)) (k37 : Int32 → Int32 → Int32 → Int32 → MS → Option (Int32))  (y1 : Int32) (y2 : Int32) (y3 : Int32) (y4 : Int32) (σ : MS) : Option (Int32) := (k37 (y1) (y2) (y3) ((y4 + (1 : Int32))) σ)
set_option maxHeartbeats 4000000 in
set_option maxRecDepth 20000 in
theorem c_X11_watch_74 {X : CX} {Ω : OM} (hX : CF X Ω RX11 cX11_watch 5 (some .int) rm_X11_watch) (hO : OKO Ω) (hΩ : oSH Ω = SHX)   (σ : MS) (k29 : Int32 → Int32 → Int32 → MS → Option (Int32)) (hk29 : ∀ (y1 : Int32) (y2 : Int32) (y3 : Int32), GE X Ω 5 0 0 (emPI σ) 0 0 29 [(0, .ref 0), (1, .int y1), (2, .int y2), (3, .int y3)] [] σ (k29 y1 y2 y3 σ)) (k37 : Int32 → Int32 → Int32 → Int32 → MS → Option (Int32)) (hk37 : ∀ (y1 : Int32) (y2 : Int32) (y3 : Int32) (y4 : Int32), GE X Ω 5 0 0 (emPI σ) 0 0 37 [(0, .ref 0), (1, .int y1), (2, .int y2), (3, .int y3), (4, .int y4)] [] σ (k37 y1 y2 y3 y4 σ))  (y1 : Int32) (y2 : Int32) (y3 : Int32) (y4 : Int32)   : GE X Ω 5 0 0 (emPI σ) 0 0 74 [(0, .ref 0), (1, .int y1), (2, .int y2), (3, .int y3), (4, .int y4)] [] σ (b_X11_watch_74  k29 k37 y1 y2 y3 y4 σ) := by
  unfold b_X11_watch_74
  refine g_iinc (w := (y4 + (1 : Int32))) (L' := [(4, .int (y4 + (1 : Int32))), (0, .ref 0), (1, .int y1), (2, .int y2), (3, .int y3)]) hX (dc_X11_watch 38 rfl) 4 rfl rfl (by decide) rfl ?_
  refine g_goto (tgt := 37) hX (dc_X11_watch 39 rfl) (by decide) ?_
  exact g_sub [1, 2, 3, 4, 0] rfl (hk37 (y1) (y2) (y3) ((y4 + (1 : Int32))) )
def b_X11_watch_37  (k29 : Int32 → Int32 → Int32 → MS → Option (Int32)) : Nat → Int32 → Int32 → Int32 → Int32 → MS → Option (Int32)
  | 0, _, _, _, _, _ => none
  | n + 1, y1, y2, y3, y4, σ => (if (24 : Int32) ≤ y4 then (k29 (y1) (y2) ((y3 + (1 : Int32))) σ) else (f_X3_awakeAt y4 σ).bind (fun r11 => (f_J6_bitCount_0f7a4 r11).bind (fun r12 => (if r12 = y3 then (if y2 = y1 then some y4 else (b_X11_watch_74 k29 (b_X11_watch_37  k29 n) (y1) ((y2 + (1 : Int32))) (y3) (y4) σ)) else (b_X11_watch_74 k29 (b_X11_watch_37  k29 n) (y1) (y2) (y3) (y4) σ)))))
set_option maxHeartbeats 4000000 in
set_option maxRecDepth 20000 in
theorem c_X11_watch_37 {X : CX} {Ω : OM} (hX : CF X Ω RX11 cX11_watch 5 (some .int) rm_X11_watch) (hO : OKO Ω) (hΩ : oSH Ω = SHX)   (σ : MS) (k29 : Int32 → Int32 → Int32 → MS → Option (Int32)) (hk29 : ∀ (y1 : Int32) (y2 : Int32) (y3 : Int32), GE X Ω 5 0 0 (emPI σ) 0 0 29 [(0, .ref 0), (1, .int y1), (2, .int y2), (3, .int y3)] [] σ (k29 y1 y2 y3 σ)) : ∀ (n : Nat) (y1 : Int32) (y2 : Int32) (y3 : Int32) (y4 : Int32)  , GE X Ω 5 0 0 (emPI σ) 0 0 37 [(0, .ref 0), (1, .int y1), (2, .int y2), (3, .int y3), (4, .int y4)] [] σ (b_X11_watch_37  k29 n y1 y2 y3 y4 σ)
  | 0, _, _, _, _ => g_none
  | n + 1, y1, y2, y3, y4 => by
    have hk37 := c_X11_watch_37 hX hO hΩ  σ k29 hk29 n
    unfold b_X11_watch_37
    refine g_iload hX (dc_X11_watch 21 rfl) 4 rfl ?_
    refine g_bipush (w := (24 : Int32)) hX (dc_X11_watch 22 rfl) (by decide) ?_
    refine g_icmp_ge (tgt := 80) hX (dc_X11_watch 23 rfl) (by decide) (fun h10 => ?_) (fun h10 => ?_)
    · refine g_iinc (w := (y3 + (1 : Int32))) (L' := [(3, .int (y3 + (1 : Int32))), (0, .ref 0), (1, .int y1), (2, .int y2), (4, .int y4)]) hX (dc_X11_watch 40 rfl) 3 rfl rfl (by decide) rfl ?_
      refine g_goto (tgt := 29) hX (dc_X11_watch 41 rfl) (by decide) ?_
      exact g_sub [1, 2, 3, 0] rfl (hk29 (y1) (y2) ((y3 + (1 : Int32))) )
    · refine g_aload_n hX (dc_X11_watch 24 rfl) rfl 0 rfl ?_
      refine g_getF (q := 22) hX (dc_X11_watch 25 rfl) fl_X11_41 (by decide) rfl (stS hΩ 0 rfl) rfl ?_
      refine g_getF (q := 23) hX (dc_X11_watch 26 rfl) fl_X11_51 (by decide) rfl (stS hΩ 22 rfl) rfl ?_
      refine g_iload hX (dc_X11_watch 27 rfl) 4 rfl ?_
      refine gV_PI (As := [.int y4]) (st := []) hX (dc_X11_watch 28 rfl) ml_X11_201 (con_X3_awakeAt hO hΩ y4 σ) (stS hΩ 23 rfl) rfl rfl ⟨by decide, by decide⟩ ⟨rfl, rfl⟩ ⟨Nat.zero_le _, Nat.zero_le _⟩ (Nat.le_of_ble_eq_true rfl) (fun r11 _ => ?_)
      refine gS_PI (As := [.int r11]) (st := []) hX (dc_X11_watch 29 rfl) ml_X11_239 (con_J6_bitCount_0f7a4 hO hΩ r11 σ) rfl rfl ⟨by decide, by decide⟩ ⟨rfl, rfl⟩ ⟨Nat.zero_le _, Nat.zero_le _⟩ (Nat.le_of_ble_eq_true rfl) (fun r12 _ => ?_)
      refine g_iload_n hX (dc_X11_watch 30 rfl) rfl 3 rfl ?_
      refine g_icmp_ne (tgt := 74) hX (dc_X11_watch 31 rfl) (by decide) (fun h13 => ?_) (fun h13 => ?_)
      · refine g_iload_n hX (dc_X11_watch 32 rfl) rfl 2 rfl ?_
        refine g_iload_n hX (dc_X11_watch 33 rfl) rfl 1 rfl ?_
        refine g_icmp_ne (tgt := 71) hX (dc_X11_watch 34 rfl) (by decide) (fun h14 => ?_) (fun h14 => ?_)
        · refine g_iload hX (dc_X11_watch 35 rfl) 4 rfl ?_
          exact g_iret hX (dc_X11_watch 36 rfl) rfl rfl (Nat.le_refl _) (Nat.le_refl _)
        · refine g_iinc (w := (y2 + (1 : Int32))) (L' := [(2, .int (y2 + (1 : Int32))), (0, .ref 0), (1, .int y1), (3, .int y3), (4, .int y4)]) hX (dc_X11_watch 37 rfl) 2 rfl rfl (by decide) rfl ?_
          exact g_sub [1, 2, 0, 3, 4] rfl (c_X11_watch_74 hX hO hΩ σ _ hk29 _ hk37 (y1) ((y2 + (1 : Int32))) (y3) (y4))
      · exact g_sub [0, 1, 2, 3, 4] rfl (c_X11_watch_74 hX hO hΩ σ _ hk29 _ hk37 (y1) (y2) (y3) (y4))
def b_X11_watch_29   : Nat → Int32 → Int32 → Int32 → MS → Option (Int32)
  | 0, _, _, _, _ => none
  | n + 1, y1, y2, y3, σ => (if (4 : Int32) < y3 then some (-1 : Int32) else (b_X11_watch_37 (b_X11_watch_29  n) FU (y1) (y2) (y3) ((0 : Int32)) σ))
set_option maxHeartbeats 4000000 in
set_option maxRecDepth 20000 in
theorem c_X11_watch_29 {X : CX} {Ω : OM} (hX : CF X Ω RX11 cX11_watch 5 (some .int) rm_X11_watch) (hO : OKO Ω) (hΩ : oSH Ω = SHX)   (σ : MS)  : ∀ (n : Nat) (y1 : Int32) (y2 : Int32) (y3 : Int32)  , GE X Ω 5 0 0 (emPI σ) 0 0 29 [(0, .ref 0), (1, .int y1), (2, .int y2), (3, .int y3)] [] σ (b_X11_watch_29  n y1 y2 y3 σ)
  | 0, _, _, _ => g_none
  | n + 1, y1, y2, y3 => by
    have hk29 := c_X11_watch_29 hX hO hΩ  σ n
    unfold b_X11_watch_29
    refine g_iload_n hX (dc_X11_watch 16 rfl) rfl 3 rfl ?_
    refine g_iconst (w := (4 : Int32)) hX (dc_X11_watch 17 rfl) (by decide) ?_
    refine g_icmp_gt (tgt := 86) hX (dc_X11_watch 18 rfl) (by decide) (fun h15 => ?_) (fun h15 => ?_)
    · refine g_iconst (w := (-1 : Int32)) hX (dc_X11_watch 42 rfl) (by decide) ?_
      exact g_iret hX (dc_X11_watch 43 rfl) rfl rfl (Nat.le_refl _) (Nat.le_refl _)
    · refine g_iconst (w := (0 : Int32)) hX (dc_X11_watch 19 rfl) (by decide) ?_
      refine g_istore (L' := [(4, .int (0 : Int32)), (0, .ref 0), (1, .int y1), (2, .int y2), (3, .int y3)]) hX (dc_X11_watch 20 rfl) (by decide) rfl ?_
      exact g_sub [1, 2, 3, 4, 0] rfl (c_X11_watch_37 hX hO hΩ σ _ hk29 FU (y1) (y2) (y3) ((0 : Int32)))
def b_X11_watch_23     (σ : MS) : Option (Int32) := some (-1 : Int32)
set_option maxHeartbeats 4000000 in
set_option maxRecDepth 20000 in
theorem c_X11_watch_23 {X : CX} {Ω : OM} (hX : CF X Ω RX11 cX11_watch 5 (some .int) rm_X11_watch) (hO : OKO Ω) (hΩ : oSH Ω = SHX)   (σ : MS)      : GE X Ω 5 0 0 (emPI σ) 0 0 23 [] [] σ (b_X11_watch_23  σ) := by
  unfold b_X11_watch_23
  refine g_iconst (w := (-1 : Int32)) hX (dc_X11_watch 10 rfl) (by decide) ?_
  exact g_iret hX (dc_X11_watch 11 rfl) rfl rfl (Nat.le_refl _) (Nat.le_refl _)
def b_X11_watch_0   (x1 : Int32)  (σ : MS) : Option (Int32) := (if (sI σ 23 0) = 0 then (b_X11_watch_23 σ) else (if x1 < 0 then (b_X11_watch_23 σ) else (if x1 < (24 : Int32) then (b_X11_watch_29 FU (x1) ((0 : Int32)) ((0 : Int32)) σ) else (b_X11_watch_23 σ))))
set_option maxHeartbeats 4000000 in
set_option maxRecDepth 20000 in
theorem c_X11_watch_0 {X : CX} {Ω : OM} (hX : CF X Ω RX11 cX11_watch 5 (some .int) rm_X11_watch) (hO : OKO Ω) (hΩ : oSH Ω = SHX)   (σ : MS)  (x1 : Int32)    : GE X Ω 5 0 0 (emPI σ) 0 0 0 [(0, .ref 0), (1, .int x1)] [] σ (b_X11_watch_0  x1 σ) := by
  unfold b_X11_watch_0
  refine g_aload_n hX (dc_X11_watch 0 rfl) rfl 0 rfl ?_
  refine g_getF (q := 22) hX (dc_X11_watch 1 rfl) fl_X11_41 (by decide) rfl (stS hΩ 0 rfl) rfl ?_
  refine g_getF (q := 23) hX (dc_X11_watch 2 rfl) fl_X11_51 (by decide) rfl (stS hΩ 22 rfl) rfl ?_
  refine g_getI hX (dc_X11_watch 3 rfl) fl_X11_220 (by decide) rfl (stS hΩ 23 rfl) ?_
  refine g_if_eq (tgt := 23) hX (dc_X11_watch 4 rfl) (by decide) (fun h16 => ?_) (fun h16 => ?_)
  · exact g_sub [] rfl (c_X11_watch_23 hX hO hΩ σ)
  · refine g_iload_n hX (dc_X11_watch 5 rfl) rfl 1 rfl ?_
    refine g_if_lt (tgt := 23) hX (dc_X11_watch 6 rfl) (by decide) (fun h17 => ?_) (fun h17 => ?_)
    · exact g_sub [] rfl (c_X11_watch_23 hX hO hΩ σ)
    · refine g_iload_n hX (dc_X11_watch 7 rfl) rfl 1 rfl ?_
      refine g_bipush (w := (24 : Int32)) hX (dc_X11_watch 8 rfl) (by decide) ?_
      refine g_icmp_lt (tgt := 25) hX (dc_X11_watch 9 rfl) (by decide) (fun h18 => ?_) (fun h18 => ?_)
      · refine g_iconst (w := (0 : Int32)) hX (dc_X11_watch 12 rfl) (by decide) ?_
        refine g_istore_n (L' := [(2, .int (0 : Int32)), (0, .ref 0), (1, .int x1)]) hX (dc_X11_watch 13 rfl) rfl (by decide) rfl ?_
        refine g_iconst (w := (0 : Int32)) hX (dc_X11_watch 14 rfl) (by decide) ?_
        refine g_istore_n (L' := [(3, .int (0 : Int32)), (2, .int (0 : Int32)), (0, .ref 0), (1, .int x1)]) hX (dc_X11_watch 15 rfl) rfl (by decide) rfl ?_
        exact g_sub [2, 3, 1, 0] rfl (c_X11_watch_29 hX hO hΩ σ FU (x1) ((0 : Int32)) ((0 : Int32)))
      · exact g_sub [] rfl (c_X11_watch_23 hX hO hΩ σ)
def f_X11_watch (x1 : Int32) (σ : MS) : Option (Int32) := b_X11_watch_0  x1 σ
theorem con_X11_watch {Ω : OM} (hO : OKO Ω) (hΩ : oSH Ω = SHX) (x1 : Int32) (σ : MS)  : Con Ω yX11_watch cX11_watch 5 (some .int) rm_X11_watch (emPI σ) [.ref 0, .int x1] σ (f_X11_watch x1 σ) :=
  con_of hO (by decide +kernel) (Nat.le_of_ble_eq_true rfl) rfl (fun X hX _ => c_X11_watch_0 hX hO hΩ   σ x1)
def it_X11_log : List (Nat × Instr × Nat × Nat) := [(0, .iload_n 1, 1, 1), (1, .iconst (-1), 1, 2), (2, .if_icmp .ne 13, 3, 5), (5, .aload_n 0, 1, 6), (6, .getfield 41, 3, 9), (9, .iconst 0, 1, 10), (10, .putfield 204, 3, 13), (13, .iconst 0, 1, 14), (14, .ireturn, 1, 15), (15, .iload_n 1, 1, 16), (16, .ifCond .lt 30, 3, 19), (19, .iload_n 1, 1, 20), (20, .bipush 60, 2, 22), (22, .if_icmp .gt 24, 3, 25), (25, .aload_n 0, 1, 26), (26, .iload_n 2, 1, 27), (27, .invokevirtual 162, 3, 30), (30, .ifCond .eq 16, 3, 33), (33, .iload_n 3, 1, 34), (34, .iconst (-1), 1, 35), (35, .if_icmp .eq 14, 3, 38), (38, .aload_n 0, 1, 39), (39, .iload_n 3, 1, 40), (40, .invokevirtual 137, 3, 43), (43, .ifCond .ne 6, 3, 46), (46, .bipush (-2), 2, 48), (48, .ireturn, 1, 49), (49, .aload_n 0, 1, 50), (50, .getfield 41, 3, 53), (53, .iload_n 1, 1, 54), (54, .iload_n 2, 1, 55), (55, .iload_n 3, 1, 56), (56, .invokevirtual 319, 3, 59), (59, .ifCond .eq 13, 3, 62), (62, .aload_n 0, 1, 63), (63, .getfield 41, 3, 66), (66, .getfield 204, 3, 69), (69, .goto 5, 3, 72), (72, .bipush (-2), 2, 74), (74, .ireturn, 1, 75)]
theorem id_X11_log : ∀ q ∈ it_X11_log, decode cX11_log q.1 = .ok (q.2.1, q.2.2.1) ∧ q.1 + q.2.2.1 = q.2.2.2 := by decide +kernel
theorem dc_X11_log {pc : Nat} {i : Instr} {n pc' : Nat} (j : Nat) (h : it_X11_log[j]? = some (pc, i, n, pc')) : Dc cX11_log pc i n pc' := dc_of id_X11_log j h
abbrev rm_X11_log : Room := { frames := 1, cells := 0, slots := 0, locals := 23 }
def b_X11_log_74    (s0 : Int32) (σ : MS) : Option (Int32 × MS) := some (s0, σ)
set_option maxHeartbeats 4000000 in
set_option maxRecDepth 20000 in
theorem c_X11_log_74 {X : CX} {Ω : OM} (hX : CF X Ω RX11 cX11_log 4 (some .int) rm_X11_log) (hO : OKO Ω) (hΩ : oSH Ω = SHX)     (s0 : Int32) (σ : MS)  : GE X Ω 4 0 0 (emWI) 0 0 74 [] [.int s0] σ (b_X11_log_74  s0 σ) := by
  unfold b_X11_log_74
  exact g_iret hX (dc_X11_log 39 rfl) rfl rfl (Nat.le_refl _) (Nat.le_refl _)
def b_X11_log_49    (y1 : Int32) (y2 : Int32) (y3 : Int32) (σ : MS) : Option (Int32 × MS) := (f_X10_addLog y1 y2 y3 σ).bind (fun r11 => (if r11.1 = 0 then (b_X11_log_74 ((-2 : Int32)) r11.2) else (b_X11_log_74 ((sI r11.2 22 8)) r11.2)))
set_option maxHeartbeats 4000000 in
set_option maxRecDepth 20000 in
theorem c_X11_log_49 {X : CX} {Ω : OM} (hX : CF X Ω RX11 cX11_log 4 (some .int) rm_X11_log) (hO : OKO Ω) (hΩ : oSH Ω = SHX)     (y1 : Int32) (y2 : Int32) (y3 : Int32) (σ : MS)  : GE X Ω 4 0 0 (emWI) 0 0 49 [(0, .ref 0), (1, .int y1), (2, .int y2), (3, .int y3)] [] σ (b_X11_log_49  y1 y2 y3 σ) := by
  unfold b_X11_log_49
  refine g_aload_n hX (dc_X11_log 27 rfl) rfl 0 rfl ?_
  refine g_getF (q := 22) hX (dc_X11_log 28 rfl) fl_X11_41 (by decide) rfl (stS hΩ 0 rfl) rfl ?_
  refine g_iload_n hX (dc_X11_log 29 rfl) rfl 1 rfl ?_
  refine g_iload_n hX (dc_X11_log 30 rfl) rfl 2 rfl ?_
  refine g_iload_n hX (dc_X11_log 31 rfl) rfl 3 rfl ?_
  refine gV_WI (As := [.int y1, .int y2, .int y3]) (st := []) hX (dc_X11_log 32 rfl) ml_X11_319 (con_X10_addLog hO hΩ y1 y2 y3 σ) (stS hΩ 22 rfl) rfl rfl ⟨by decide, by decide⟩ ⟨rfl, rfl⟩ ⟨Nat.zero_le _, Nat.zero_le _⟩ (Nat.le_of_ble_eq_true rfl) (fun r11 _ => ?_)
  refine g_if_eq (tgt := 72) hX (dc_X11_log 33 rfl) (by decide) (fun h12 => ?_) (fun h12 => ?_)
  · refine g_bipush (w := (-2 : Int32)) hX (dc_X11_log 38 rfl) (by decide) ?_
    exact g_sub [] rfl (c_X11_log_74 hX hO hΩ ((-2 : Int32)) r11.2)
  · refine g_aload_n hX (dc_X11_log 34 rfl) rfl 0 rfl ?_
    refine g_getF (q := 22) hX (dc_X11_log 35 rfl) fl_X11_41 (by decide) rfl (stS hΩ 0 rfl) rfl ?_
    refine g_getI hX (dc_X11_log 36 rfl) fl_X11_204 (by decide) rfl (stS hΩ 22 rfl) ?_
    refine g_goto (tgt := 74) hX (dc_X11_log 37 rfl) (by decide) ?_
    exact g_sub [] rfl (c_X11_log_74 hX hO hΩ ((sI r11.2 22 8)) r11.2)
def b_X11_log_46     (σ : MS) : Option (Int32 × MS) := some ((-2 : Int32), σ)
set_option maxHeartbeats 4000000 in
set_option maxRecDepth 20000 in
theorem c_X11_log_46 {X : CX} {Ω : OM} (hX : CF X Ω RX11 cX11_log 4 (some .int) rm_X11_log) (hO : OKO Ω) (hΩ : oSH Ω = SHX)      (σ : MS)  : GE X Ω 4 0 0 (emWI) 0 0 46 [] [] σ (b_X11_log_46  σ) := by
  unfold b_X11_log_46
  refine g_bipush (w := (-2 : Int32)) hX (dc_X11_log 25 rfl) (by decide) ?_
  exact g_iret hX (dc_X11_log 26 rfl) rfl rfl (Nat.le_refl _) (Nat.le_refl _)
def b_X11_log_0   (x1 : Int32) (x2 : Int32) (x3 : Int32)  (σ : MS) : Option (Int32 × MS) := (if x1 = (-1 : Int32) then some ((0 : Int32), (wI σ 22 8 (0 : Int32))) else (if x1 < 0 then (b_X11_log_46 σ) else (if (60 : Int32) < x1 then (b_X11_log_46 σ) else (f_X11_isWork x2 σ).bind (fun r16 => (if r16 = 0 then (b_X11_log_46 σ) else (if x3 = (-1 : Int32) then (b_X11_log_49 (x1) (x2) (x3) σ) else (f_X11_isPerson x3 σ).bind (fun r19 => (if r19 = 0 then (b_X11_log_46 σ) else (b_X11_log_49 (x1) (x2) (x3) σ)))))))))
set_option maxHeartbeats 4000000 in
set_option maxRecDepth 20000 in
theorem c_X11_log_0 {X : CX} {Ω : OM} (hX : CF X Ω RX11 cX11_log 4 (some .int) rm_X11_log) (hO : OKO Ω) (hΩ : oSH Ω = SHX)    (x1 : Int32) (x2 : Int32) (x3 : Int32)  (σ : MS)  : GE X Ω 4 0 0 (emWI) 0 0 0 [(0, .ref 0), (1, .int x1), (2, .int x2), (3, .int x3)] [] σ (b_X11_log_0  x1 x2 x3 σ) := by
  unfold b_X11_log_0
  refine g_iload_n hX (dc_X11_log 0 rfl) rfl 1 rfl ?_
  refine g_iconst (w := (-1 : Int32)) hX (dc_X11_log 1 rfl) (by decide) ?_
  refine g_icmp_ne (tgt := 15) hX (dc_X11_log 2 rfl) (by decide) (fun h13 => ?_) (fun h13 => ?_)
  · refine g_aload_n hX (dc_X11_log 3 rfl) rfl 0 rfl ?_
    refine g_getF (q := 22) hX (dc_X11_log 4 rfl) fl_X11_41 (by decide) rfl (stS hΩ 0 rfl) rfl ?_
    refine g_iconst (w := (0 : Int32)) hX (dc_X11_log 5 rfl) (by decide) ?_
    refine g_putI (raw := false) hX (dc_X11_log 6 rfl) fl_X11_204 (by decide) ⟨rfl, rfl⟩ ⟨rfl, rfl⟩ (stS hΩ 22 rfl) ?_
    refine g_iconst (w := (0 : Int32)) hX (dc_X11_log 7 rfl) (by decide) ?_
    exact g_iret hX (dc_X11_log 8 rfl) rfl rfl (Nat.le_refl _) (Nat.le_refl _)
  · refine g_iload_n hX (dc_X11_log 9 rfl) rfl 1 rfl ?_
    refine g_if_lt (tgt := 46) hX (dc_X11_log 10 rfl) (by decide) (fun h14 => ?_) (fun h14 => ?_)
    · exact g_sub [] rfl (c_X11_log_46 hX hO hΩ σ)
    · refine g_iload_n hX (dc_X11_log 11 rfl) rfl 1 rfl ?_
      refine g_bipush (w := (60 : Int32)) hX (dc_X11_log 12 rfl) (by decide) ?_
      refine g_icmp_gt (tgt := 46) hX (dc_X11_log 13 rfl) (by decide) (fun h15 => ?_) (fun h15 => ?_)
      · exact g_sub [] rfl (c_X11_log_46 hX hO hΩ σ)
      · refine g_aload_n hX (dc_X11_log 14 rfl) rfl 0 rfl ?_
        refine g_iload_n hX (dc_X11_log 15 rfl) rfl 2 rfl ?_
        refine gV_PI (As := [.int x2]) (st := []) hX (dc_X11_log 16 rfl) ml_X11_162 (con_X11_isWork hO hΩ x2 σ) (stS hΩ 0 rfl) rfl rfl ⟨by decide, by decide⟩ ⟨rfl, rfl⟩ ⟨Nat.zero_le _, Nat.zero_le _⟩ (Nat.le_of_ble_eq_true rfl) (fun r16 _ => ?_)
        refine g_if_eq (tgt := 46) hX (dc_X11_log 17 rfl) (by decide) (fun h17 => ?_) (fun h17 => ?_)
        · exact g_sub [] rfl (c_X11_log_46 hX hO hΩ σ)
        · refine g_iload_n hX (dc_X11_log 18 rfl) rfl 3 rfl ?_
          refine g_iconst (w := (-1 : Int32)) hX (dc_X11_log 19 rfl) (by decide) ?_
          refine g_icmp_eq (tgt := 49) hX (dc_X11_log 20 rfl) (by decide) (fun h18 => ?_) (fun h18 => ?_)
          · exact g_sub [0, 1, 2, 3] rfl (c_X11_log_49 hX hO hΩ (x1) (x2) (x3) σ)
          · refine g_aload_n hX (dc_X11_log 21 rfl) rfl 0 rfl ?_
            refine g_iload_n hX (dc_X11_log 22 rfl) rfl 3 rfl ?_
            refine gV_PI (As := [.int x3]) (st := []) hX (dc_X11_log 23 rfl) ml_X11_137 (con_X11_isPerson hO hΩ x3 σ) (stS hΩ 0 rfl) rfl rfl ⟨by decide, by decide⟩ ⟨rfl, rfl⟩ ⟨Nat.zero_le _, Nat.zero_le _⟩ (Nat.le_of_ble_eq_true rfl) (fun r19 _ => ?_)
            refine g_if_ne (tgt := 49) hX (dc_X11_log 24 rfl) (by decide) (fun h20 => ?_) (fun h20 => ?_)
            · exact g_sub [] rfl (c_X11_log_46 hX hO hΩ σ)
            · exact g_sub [0, 1, 2, 3] rfl (c_X11_log_49 hX hO hΩ (x1) (x2) (x3) σ)
def f_X11_log (x1 : Int32) (x2 : Int32) (x3 : Int32) (σ : MS) : Option (Int32 × MS) := b_X11_log_0  x1 x2 x3 σ
theorem con_X11_log {Ω : OM} (hO : OKO Ω) (hΩ : oSH Ω = SHX) (x1 : Int32) (x2 : Int32) (x3 : Int32) (σ : MS)  : Con Ω yX11_log cX11_log 4 (some .int) rm_X11_log (emWI) [.ref 0, .int x1, .int x2, .int x3] σ (f_X11_log x1 x2 x3 σ) :=
  con_of hO (by decide +kernel) (Nat.le_of_ble_eq_true rfl) rfl (fun X hX _ => c_X11_log_0 hX hO hΩ   x1 x2 x3 σ )
def it_X11_fitsLogs : List (Nat × Instr × Nat × Nat) := [(0, .aload_n 0, 1, 1), (1, .getfield 58, 3, 4), (4, .aload_n 0, 1, 5), (5, .iload_n 1, 1, 6), (6, .invokevirtual 227, 3, 9), (9, .iconst (-1), 1, 10), (10, .invokevirtual 231, 3, 13), (13, .aload_n 0, 1, 14), (14, .getfield 65, 3, 17), (17, .aload_n 0, 1, 18), (18, .getfield 41, 3, 21), (21, .getfield 51, 3, 24), (24, .getfield 329, 3, 27), (27, .invokevirtual 277, 3, 30), (30, .iload_n 2, 1, 31), (31, .aload_n 0, 1, 32), (32, .getfield 41, 3, 35), (35, .invokevirtual 332, 3, 38), (38, .invokestatic 335, 3, 41), (41, .iconst 1, 1, 42), (42, .iadd, 1, 43), (43, .istore_n 3, 1, 44), (44, .iconst 0, 1, 45), (45, .istore 4, 2, 47), (47, .iload 4, 2, 49), (49, .iload_n 3, 1, 50), (50, .if_icmp .ge 68, 3, 53), (53, .aload_n 0, 1, 54), (54, .getfield 58, 3, 57), (57, .aload_n 0, 1, 58), (58, .getfield 65, 3, 61), (61, .invokevirtual 235, 3, 64), (64, .pop, 1, 65), (65, .aload_n 0, 1, 66), (66, .getfield 41, 3, 69), (69, .aload_n 0, 1, 70), (70, .getfield 65, 3, 73), (73, .iload 4, 2, 75), (75, .invokevirtual 338, 3, 78), (78, .ifCond .ne 5, 3, 81), (81, .iconst 0, 1, 82), (82, .ireturn, 1, 83), (83, .iload 4, 2, 85), (85, .iload_n 2, 1, 86), (86, .if_icmp .ne 26, 3, 89), (89, .aload_n 0, 1, 90), (90, .getfield 65, 3, 93), (93, .getfield 168, 3, 96), (96, .iconst 0, 1, 97), (97, .aload_n 0, 1, 98), (98, .getfield 83, 3, 101), (101, .iload_n 1, 1, 102), (102, .iconst 1, 1, 103), (103, .iadd, 1, 104), (104, .bipush 6, 2, 106), (106, .imul, 1, 107), (107, .bipush 6, 2, 109), (109, .invokestatic 342, 3, 112), (112, .iinc 4 1, 3, 115), (115, .goto (-68), 3, 118), (118, .iconst 1, 1, 119), (119, .ireturn, 1, 120)]
theorem id_X11_fitsLogs : ∀ q ∈ it_X11_fitsLogs, decode cX11_fitsLogs q.1 = .ok (q.2.1, q.2.2.1) ∧ q.1 + q.2.2.1 = q.2.2.2 := by decide +kernel
theorem dc_X11_fitsLogs {pc : Nat} {i : Instr} {n pc' : Nat} (j : Nat) (h : it_X11_fitsLogs[j]? = some (pc, i, n, pc')) : Dc cX11_fitsLogs pc i n pc' := dc_of id_X11_fitsLogs j h
abbrev rm_X11_fitsLogs : Room := { frames := 6, cells := 0, slots := 0, locals := 148 }
def b_X11_fitsLogs_112  (k47 : Int32 → Int32 → Int32 → Int32 → MS → Option (Int32 × MS))  (y1 : Int32) (y2 : Int32) (y3 : Int32) (y4 : Int32) (σ : MS) : Option (Int32 × MS) := (k47 (y1) (y2) (y3) ((y4 + (1 : Int32))) σ)
set_option maxHeartbeats 4000000 in
set_option maxRecDepth 20000 in
theorem c_X11_fitsLogs_112 {X : CX} {Ω : OM} (hX : CF X Ω RX11 cX11_fitsLogs 5 (some .boolean) rm_X11_fitsLogs) (hO : OKO Ω) (hΩ : oSH Ω = SHX)   (k47 : Int32 → Int32 → Int32 → Int32 → MS → Option (Int32 × MS)) (hk47 : ∀ (y1 : Int32) (y2 : Int32) (y3 : Int32) (y4 : Int32) (σ : MS) , GE X Ω 5 0 0 (emWI) 0 0 47 [(0, .ref 0), (1, .int y1), (2, .int y2), (3, .int y3), (4, .int y4)] [] σ (k47 y1 y2 y3 y4 σ))  (y1 : Int32) (y2 : Int32) (y3 : Int32) (y4 : Int32) (σ : MS)  : GE X Ω 5 0 0 (emWI) 0 0 112 [(0, .ref 0), (1, .int y1), (2, .int y2), (3, .int y3), (4, .int y4)] [] σ (b_X11_fitsLogs_112  k47 y1 y2 y3 y4 σ) := by
  unfold b_X11_fitsLogs_112
  refine g_iinc (w := (y4 + (1 : Int32))) (L' := [(4, .int (y4 + (1 : Int32))), (0, .ref 0), (1, .int y1), (2, .int y2), (3, .int y3)]) hX (dc_X11_fitsLogs 58 rfl) 4 rfl rfl (by decide) rfl ?_
  refine g_goto (tgt := 47) hX (dc_X11_fitsLogs 59 rfl) (by decide) ?_
  exact g_sub [1, 2, 3, 4, 0] rfl (hk47 (y1) (y2) (y3) ((y4 + (1 : Int32))) σ )
def b_X11_fitsLogs_47   : Nat → Int32 → Int32 → Int32 → Int32 → MS → Option (Int32 × MS)
  | 0, _, _, _, _, _ => none
  | n + 1, y1, y2, y3, y4, σ => (if y3 ≤ y4 then some ((1 : Int32), σ) else (f_X1_passHour 46 σ).bind (fun r13 => (f_X10_agrees 46 y4 r13.2).bind (fun r14 => (if r14 = 0 then some ((0 : Int32), r13.2) else (if y4 = y2 then chk (¬ (0 : Int32) < 0 ∧ ¬ ((y1 + (1 : Int32)) * (6 : Int32)) < 0 ∧ ¬ (6 : Int32) < 0 ∧ ix (0 : Int32) + ix (6 : Int32) ≤ 6 ∧ ix ((y1 + (1 : Int32)) * (6 : Int32)) + ix (6 : Int32) ≤ 42) ((b_X11_fitsLogs_112 (b_X11_fitsLogs_47  n) (y1) (y2) (y3) (y4) (wW r13.2 55 (va_cpy (sI r13.2 47) (sI r13.2 55) (ix (0 : Int32)) (ix ((y1 + (1 : Int32)) * (6 : Int32))) (ix (6 : Int32)))))) else (b_X11_fitsLogs_112 (b_X11_fitsLogs_47  n) (y1) (y2) (y3) (y4) r13.2))))))
set_option maxHeartbeats 4000000 in
set_option maxRecDepth 20000 in
theorem c_X11_fitsLogs_47 {X : CX} {Ω : OM} (hX : CF X Ω RX11 cX11_fitsLogs 5 (some .boolean) rm_X11_fitsLogs) (hO : OKO Ω) (hΩ : oSH Ω = SHX)    : ∀ (n : Nat) (y1 : Int32) (y2 : Int32) (y3 : Int32) (y4 : Int32) (σ : MS) , GE X Ω 5 0 0 (emWI) 0 0 47 [(0, .ref 0), (1, .int y1), (2, .int y2), (3, .int y3), (4, .int y4)] [] σ (b_X11_fitsLogs_47  n y1 y2 y3 y4 σ)
  | 0, _, _, _, _, _ => g_none
  | n + 1, y1, y2, y3, y4, σ => by
    have hk47 := c_X11_fitsLogs_47 hX hO hΩ  n
    unfold b_X11_fitsLogs_47
    refine g_iload hX (dc_X11_fitsLogs 24 rfl) 4 rfl ?_
    refine g_iload_n hX (dc_X11_fitsLogs 25 rfl) rfl 3 rfl ?_
    refine g_icmp_ge (tgt := 118) hX (dc_X11_fitsLogs 26 rfl) (by decide) (fun h12 => ?_) (fun h12 => ?_)
    · refine g_iconst (w := (1 : Int32)) hX (dc_X11_fitsLogs 60 rfl) (by decide) ?_
      exact g_iret hX (dc_X11_fitsLogs 61 rfl) rfl rfl (Nat.le_refl _) (Nat.le_refl _)
    · refine g_aload_n hX (dc_X11_fitsLogs 27 rfl) rfl 0 rfl ?_
      refine g_getF (q := 44) hX (dc_X11_fitsLogs 28 rfl) fl_X11_58 (by decide) rfl (stS hΩ 0 rfl) rfl ?_
      refine g_aload_n hX (dc_X11_fitsLogs 29 rfl) rfl 0 rfl ?_
      refine g_getF (q := 46) hX (dc_X11_fitsLogs 30 rfl) fl_X11_65 (by decide) rfl (stS hΩ 0 rfl) rfl ?_
      refine gV_WI (As := [.ref 46]) (st := []) hX (dc_X11_fitsLogs 31 rfl) ml_X11_235 (con_X1_passHour hO hΩ 46 σ (stR hΩ 46 (by decide))) (stS hΩ 44 rfl) rfl rfl ⟨by decide, by decide⟩ ⟨rfl, rfl⟩ ⟨Nat.zero_le _, Nat.zero_le _⟩ (Nat.le_of_ble_eq_true rfl) (fun r13 _ => ?_)
      refine g_pop hX (dc_X11_fitsLogs 32 rfl) rfl ?_
      refine g_aload_n hX (dc_X11_fitsLogs 33 rfl) rfl 0 rfl ?_
      refine g_getF (q := 22) hX (dc_X11_fitsLogs 34 rfl) fl_X11_41 (by decide) rfl (stS hΩ 0 rfl) rfl ?_
      refine g_aload_n hX (dc_X11_fitsLogs 35 rfl) rfl 0 rfl ?_
      refine g_getF (q := 46) hX (dc_X11_fitsLogs 36 rfl) fl_X11_65 (by decide) rfl (stS hΩ 0 rfl) rfl ?_
      refine g_iload hX (dc_X11_fitsLogs 37 rfl) 4 rfl ?_
      refine gV_PI (As := [.ref 46, .int y4]) (st := []) hX (dc_X11_fitsLogs 38 rfl) ml_X11_338 (con_X10_agrees hO hΩ 46 y4 r13.2 (stR hΩ 46 (by decide))) (stS hΩ 22 rfl) rfl rfl ⟨by decide, by decide⟩ ⟨rfl, rfl⟩ ⟨Nat.zero_le _, Nat.zero_le _⟩ (Nat.le_of_ble_eq_true rfl) (fun r14 _ => ?_)
      refine g_if_ne (tgt := 83) hX (dc_X11_fitsLogs 39 rfl) (by decide) (fun h15 => ?_) (fun h15 => ?_)
      · refine g_iconst (w := (0 : Int32)) hX (dc_X11_fitsLogs 40 rfl) (by decide) ?_
        exact g_iret hX (dc_X11_fitsLogs 41 rfl) rfl rfl (Nat.le_refl _) (Nat.le_refl _)
      · refine g_iload hX (dc_X11_fitsLogs 42 rfl) 4 rfl ?_
        refine g_iload_n hX (dc_X11_fitsLogs 43 rfl) rfl 2 rfl ?_
        refine g_icmp_ne (tgt := 112) hX (dc_X11_fitsLogs 44 rfl) (by decide) (fun h16 => ?_) (fun h16 => ?_)
        · refine g_aload_n hX (dc_X11_fitsLogs 45 rfl) rfl 0 rfl ?_
          refine g_getF (q := 46) hX (dc_X11_fitsLogs 46 rfl) fl_X11_65 (by decide) rfl (stS hΩ 0 rfl) rfl ?_
          refine g_getF (q := 47) hX (dc_X11_fitsLogs 47 rfl) fl_X11_168 (by decide) rfl (stS hΩ 46 rfl) rfl ?_
          refine g_iconst (w := (0 : Int32)) hX (dc_X11_fitsLogs 48 rfl) (by decide) ?_
          refine g_aload_n hX (dc_X11_fitsLogs 49 rfl) rfl 0 rfl ?_
          refine g_getF (q := 55) hX (dc_X11_fitsLogs 50 rfl) fl_X11_83 (by decide) rfl (stS hΩ 0 rfl) rfl ?_
          refine g_iload_n hX (dc_X11_fitsLogs 51 rfl) rfl 1 rfl ?_
          refine g_iconst (w := (1 : Int32)) hX (dc_X11_fitsLogs 52 rfl) (by decide) ?_
          refine g_iadd hX (dc_X11_fitsLogs 53 rfl) ?_
          refine g_bipush (w := (6 : Int32)) hX (dc_X11_fitsLogs 54 rfl) (by decide) ?_
          refine g_imul hX (dc_X11_fitsLogs 55 rfl) ?_
          refine g_bipush (w := (6 : Int32)) hX (dc_X11_fitsLogs 56 rfl) (by decide) ?_
          refine g_chk (fun hc17 => ?_)
          refine g_copy hX (dc_X11_fitsLogs 57 rfl) ma_X11_342 (stS hΩ 47 rfl) (stS hΩ 55 rfl) hc17 (by decide) (by decide) (Nat.le_of_ble_eq_true rfl) ?_
          exact g_sub [0, 1, 2, 3, 4] rfl (c_X11_fitsLogs_112 hX hO hΩ _ hk47 (y1) (y2) (y3) (y4) (wW r13.2 55 (va_cpy (sI r13.2 47) (sI r13.2 55) (ix (0 : Int32)) (ix ((y1 + (1 : Int32)) * (6 : Int32))) (ix (6 : Int32)))))
        · exact g_sub [0, 1, 2, 3, 4] rfl (c_X11_fitsLogs_112 hX hO hΩ _ hk47 (y1) (y2) (y3) (y4) r13.2)
def b_X11_fitsLogs_0   (x1 : Int32) (x2 : Int32)  (σ : MS) : Option (Int32 × MS) := (f_X11_ruleNumbered x1 σ).bind (fun r18 => (f_X1_follow r18 (-1 : Int32) σ).bind (fun r19 => (f_X8_copyFrom 46 31 r19).bind (fun r20 => (f_X10_lastLog r20).bind (fun r21 => (f_J9_max_7cf53 x2 r21).bind (fun r22 => (b_X11_fitsLogs_47 FU (x1) (x2) ((r22 + (1 : Int32))) ((0 : Int32)) r20))))))
set_option maxHeartbeats 4000000 in
set_option maxRecDepth 20000 in
theorem c_X11_fitsLogs_0 {X : CX} {Ω : OM} (hX : CF X Ω RX11 cX11_fitsLogs 5 (some .boolean) rm_X11_fitsLogs) (hO : OKO Ω) (hΩ : oSH Ω = SHX)    (x1 : Int32) (x2 : Int32)  (σ : MS)  : GE X Ω 5 0 0 (emWI) 0 0 0 [(0, .ref 0), (1, .int x1), (2, .int x2)] [] σ (b_X11_fitsLogs_0  x1 x2 σ) := by
  unfold b_X11_fitsLogs_0
  refine g_aload_n hX (dc_X11_fitsLogs 0 rfl) rfl 0 rfl ?_
  refine g_getF (q := 44) hX (dc_X11_fitsLogs 1 rfl) fl_X11_58 (by decide) rfl (stS hΩ 0 rfl) rfl ?_
  refine g_aload_n hX (dc_X11_fitsLogs 2 rfl) rfl 0 rfl ?_
  refine g_iload_n hX (dc_X11_fitsLogs 3 rfl) rfl 1 rfl ?_
  refine gV_PN (As := [.int x1]) (st := [.ref 44]) hX (dc_X11_fitsLogs 4 rfl) ml_X11_227 (con_X11_ruleNumbered hO hΩ x1 σ) (stS hΩ 0 rfl) rfl rfl ⟨by decide, by decide⟩ ⟨rfl, rfl⟩ ⟨Nat.zero_le _, Nat.zero_le _⟩ (Nat.le_of_ble_eq_true rfl) (fun r18 _ => ?_)
  refine g_iconst (w := (-1 : Int32)) hX (dc_X11_fitsLogs 5 rfl) (by decide) ?_
  refine gV_WV (As := [va_rf r18, .int (-1 : Int32)]) (st := []) hX (dc_X11_fitsLogs 6 rfl) ml_X11_231 (con_X1_follow hO hΩ r18 (-1 : Int32) σ) (stS hΩ 44 rfl) rfl rfl ⟨by decide, by decide⟩ ⟨rfl, rfl⟩ ⟨Nat.zero_le _, Nat.zero_le _⟩ (Nat.le_of_ble_eq_true rfl) (fun r19 _ => ?_)
  refine g_aload_n hX (dc_X11_fitsLogs 7 rfl) rfl 0 rfl ?_
  refine g_getF (q := 46) hX (dc_X11_fitsLogs 8 rfl) fl_X11_65 (by decide) rfl (stS hΩ 0 rfl) rfl ?_
  refine g_aload_n hX (dc_X11_fitsLogs 9 rfl) rfl 0 rfl ?_
  refine g_getF (q := 22) hX (dc_X11_fitsLogs 10 rfl) fl_X11_41 (by decide) rfl (stS hΩ 0 rfl) rfl ?_
  refine g_getF (q := 23) hX (dc_X11_fitsLogs 11 rfl) fl_X11_51 (by decide) rfl (stS hΩ 22 rfl) rfl ?_
  refine g_getF (q := 31) hX (dc_X11_fitsLogs 12 rfl) fl_X11_329 (by decide) rfl (stS hΩ 23 rfl) rfl ?_
  refine gV_WV (As := [.ref 31]) (st := []) hX (dc_X11_fitsLogs 13 rfl) ml_X11_277 (con_X8_copyFrom hO hΩ 46 31 r19 (stR hΩ 46 (by decide)).t (stR hΩ 31 (by decide)).t) (stS hΩ 46 rfl) rfl rfl ⟨by decide, by decide⟩ ⟨rfl, rfl⟩ ⟨Nat.zero_le _, Nat.zero_le _⟩ (Nat.le_of_ble_eq_true rfl) (fun r20 _ => ?_)
  refine g_iload_n hX (dc_X11_fitsLogs 14 rfl) rfl 2 rfl ?_
  refine g_aload_n hX (dc_X11_fitsLogs 15 rfl) rfl 0 rfl ?_
  refine g_getF (q := 22) hX (dc_X11_fitsLogs 16 rfl) fl_X11_41 (by decide) rfl (stS hΩ 0 rfl) rfl ?_
  refine gV_PI (As := []) (st := [.int x2]) hX (dc_X11_fitsLogs 17 rfl) ml_X11_332 (con_X10_lastLog hO hΩ r20) (stS hΩ 22 rfl) rfl rfl ⟨by decide, by decide⟩ ⟨rfl, rfl⟩ ⟨Nat.zero_le _, Nat.zero_le _⟩ (Nat.le_of_ble_eq_true rfl) (fun r21 _ => ?_)
  refine gS_PI (As := [.int x2, .int r21]) (st := []) hX (dc_X11_fitsLogs 18 rfl) ml_X11_335 (con_J9_max_7cf53 hO hΩ x2 r21 r20) rfl rfl ⟨by decide, by decide⟩ ⟨rfl, rfl⟩ ⟨Nat.zero_le _, Nat.zero_le _⟩ (Nat.le_of_ble_eq_true rfl) (fun r22 _ => ?_)
  refine g_iconst (w := (1 : Int32)) hX (dc_X11_fitsLogs 19 rfl) (by decide) ?_
  refine g_iadd hX (dc_X11_fitsLogs 20 rfl) ?_
  refine g_istore_n (L' := [(3, .int (r22 + (1 : Int32))), (0, .ref 0), (1, .int x1), (2, .int x2)]) hX (dc_X11_fitsLogs 21 rfl) rfl (by decide) rfl ?_
  refine g_iconst (w := (0 : Int32)) hX (dc_X11_fitsLogs 22 rfl) (by decide) ?_
  refine g_istore (L' := [(4, .int (0 : Int32)), (3, .int (r22 + (1 : Int32))), (0, .ref 0), (1, .int x1), (2, .int x2)]) hX (dc_X11_fitsLogs 23 rfl) (by decide) rfl ?_
  exact g_sub [2, 3, 4, 1, 0] rfl (c_X11_fitsLogs_47 hX hO hΩ FU (x1) (x2) ((r22 + (1 : Int32))) ((0 : Int32)) r20)
def f_X11_fitsLogs (x1 : Int32) (x2 : Int32) (σ : MS) : Option (Int32 × MS) := b_X11_fitsLogs_0  x1 x2 σ
theorem con_X11_fitsLogs {Ω : OM} (hO : OKO Ω) (hΩ : oSH Ω = SHX) (x1 : Int32) (x2 : Int32) (σ : MS)  : Con Ω yX11_fitsLogs cX11_fitsLogs 5 (some .boolean) rm_X11_fitsLogs (emWI) [.ref 0, .int x1, .int x2] σ (f_X11_fitsLogs x1 x2 σ) :=
  con_of hO (by decide +kernel) (Nat.le_of_ble_eq_true rfl) rfl (fun X hX _ => c_X11_fitsLogs_0 hX hO hΩ   x1 x2 σ )
def it_X11_ruled : List (Nat × Instr × Nat × Nat) := [(0, .aload_n 0, 1, 1), (1, .getfield 41, 3, 4), (4, .getfield 51, 3, 7), (7, .getfield 220, 3, 10), (10, .ifCond .eq 12, 3, 13), (13, .iload_n 1, 1, 14), (14, .ifCond .lt 8, 3, 17), (17, .iload_n 1, 1, 18), (18, .iconst 1, 1, 19), (19, .if_icmp .le 6, 3, 22), (22, .bipush (-3), 2, 24), (24, .ireturn, 1, 25), (25, .iconst 0, 1, 26), (26, .istore_n 2, 1, 27), (27, .bipush (-2), 2, 29), (29, .istore_n 3, 1, 30), (30, .iconst (-1), 1, 31), (31, .istore 4, 2, 33), (33, .iload 4, 2, 35), (35, .aload_n 0, 1, 36), (36, .getfield 114, 3, 39), (39, .if_icmp .ge 33, 3, 42), (42, .aload_n 0, 1, 43), (43, .iload 4, 2, 45), (45, .iconst 0, 1, 46), (46, .invokevirtual 323, 3, 49), (49, .ifCond .eq 17, 3, 52), (52, .iload_n 2, 1, 53), (53, .ifCond .ne 8, 3, 56), (56, .iload 4, 2, 58), (58, .goto 4, 3, 61), (61, .iload_n 3, 1, 62), (62, .istore_n 3, 1, 63), (63, .iinc 2 1, 3, 66), (66, .iinc 4 1, 3, 69), (69, .goto (-36), 3, 72), (72, .iload_n 1, 1, 73), (73, .ifCond .ne 7, 3, 76), (76, .iload_n 2, 1, 77), (77, .goto 4, 3, 80), (80, .iload_n 3, 1, 81), (81, .ireturn, 1, 82)]
theorem id_X11_ruled : ∀ q ∈ it_X11_ruled, decode cX11_ruled q.1 = .ok (q.2.1, q.2.2.1) ∧ q.1 + q.2.2.1 = q.2.2.2 := by decide +kernel
theorem dc_X11_ruled {pc : Nat} {i : Instr} {n pc' : Nat} (j : Nat) (h : it_X11_ruled[j]? = some (pc, i, n, pc')) : Dc cX11_ruled pc i n pc' := dc_of id_X11_ruled j h
abbrev rm_X11_ruled : Room := { frames := 7, cells := 0, slots := 0, locals := 172 }
def b_X11_ruled_81    (s0 : Int32) (σ : MS) : Option (Int32 × MS) := some (s0, σ)
set_option maxHeartbeats 4000000 in
set_option maxRecDepth 20000 in
theorem c_X11_ruled_81 {X : CX} {Ω : OM} (hX : CF X Ω RX11 cX11_ruled 5 (some .int) rm_X11_ruled) (hO : OKO Ω) (hΩ : oSH Ω = SHX)     (s0 : Int32) (σ : MS)  : GE X Ω 5 0 0 (emWI) 0 0 81 [] [.int s0] σ (b_X11_ruled_81  s0 σ) := by
  unfold b_X11_ruled_81
  exact g_iret hX (dc_X11_ruled 41 rfl) rfl rfl (Nat.le_refl _) (Nat.le_refl _)
def b_X11_ruled_66  (k33 : Int32 → Int32 → Int32 → Int32 → MS → Option (Int32 × MS))  (y1 : Int32) (y2 : Int32) (y3 : Int32) (y4 : Int32) (σ : MS) : Option (Int32 × MS) := (k33 (y1) (y2) (y3) ((y4 + (1 : Int32))) σ)
set_option maxHeartbeats 4000000 in
set_option maxRecDepth 20000 in
theorem c_X11_ruled_66 {X : CX} {Ω : OM} (hX : CF X Ω RX11 cX11_ruled 5 (some .int) rm_X11_ruled) (hO : OKO Ω) (hΩ : oSH Ω = SHX)   (k33 : Int32 → Int32 → Int32 → Int32 → MS → Option (Int32 × MS)) (hk33 : ∀ (y1 : Int32) (y2 : Int32) (y3 : Int32) (y4 : Int32) (σ : MS) , GE X Ω 5 0 0 (emWI) 0 0 33 [(0, .ref 0), (1, .int y1), (2, .int y2), (3, .int y3), (4, .int y4)] [] σ (k33 y1 y2 y3 y4 σ))  (y1 : Int32) (y2 : Int32) (y3 : Int32) (y4 : Int32) (σ : MS)  : GE X Ω 5 0 0 (emWI) 0 0 66 [(0, .ref 0), (1, .int y1), (2, .int y2), (3, .int y3), (4, .int y4)] [] σ (b_X11_ruled_66  k33 y1 y2 y3 y4 σ) := by
  unfold b_X11_ruled_66
  refine g_iinc (w := (y4 + (1 : Int32))) (L' := [(4, .int (y4 + (1 : Int32))), (0, .ref 0), (1, .int y1), (2, .int y2), (3, .int y3)]) hX (dc_X11_ruled 34 rfl) 4 rfl rfl (by decide) rfl ?_
  refine g_goto (tgt := 33) hX (dc_X11_ruled 35 rfl) (by decide) ?_
  exact g_sub [1, 2, 3, 4, 0] rfl (hk33 (y1) (y2) (y3) ((y4 + (1 : Int32))) σ )
def b_X11_ruled_62  (k33 : Int32 → Int32 → Int32 → Int32 → MS → Option (Int32 × MS))  (y1 : Int32) (y2 : Int32) (y4 : Int32) (s0 : Int32) (σ : MS) : Option (Int32 × MS) := (b_X11_ruled_66 k33 (y1) ((y2 + (1 : Int32))) (s0) (y4) σ)
set_option maxHeartbeats 4000000 in
set_option maxRecDepth 20000 in
theorem c_X11_ruled_62 {X : CX} {Ω : OM} (hX : CF X Ω RX11 cX11_ruled 5 (some .int) rm_X11_ruled) (hO : OKO Ω) (hΩ : oSH Ω = SHX)   (k33 : Int32 → Int32 → Int32 → Int32 → MS → Option (Int32 × MS)) (hk33 : ∀ (y1 : Int32) (y2 : Int32) (y3 : Int32) (y4 : Int32) (σ : MS) , GE X Ω 5 0 0 (emWI) 0 0 33 [(0, .ref 0), (1, .int y1), (2, .int y2), (3, .int y3), (4, .int y4)] [] σ (k33 y1 y2 y3 y4 σ))  (y1 : Int32) (y2 : Int32) (y4 : Int32) (s0 : Int32) (σ : MS)  : GE X Ω 5 0 0 (emWI) 0 0 62 [(0, .ref 0), (1, .int y1), (2, .int y2), (4, .int y4)] [.int s0] σ (b_X11_ruled_62  k33 y1 y2 y4 s0 σ) := by
  unfold b_X11_ruled_62
  refine g_istore_n (L' := [(3, .int s0), (0, .ref 0), (1, .int y1), (2, .int y2), (4, .int y4)]) hX (dc_X11_ruled 32 rfl) rfl (by decide) rfl ?_
  refine g_iinc (w := (y2 + (1 : Int32))) (L' := [(2, .int (y2 + (1 : Int32))), (3, .int s0), (0, .ref 0), (1, .int y1), (4, .int y4)]) hX (dc_X11_ruled 33 rfl) 3 rfl rfl (by decide) rfl ?_
  exact g_sub [2, 3, 0, 1, 4] rfl (c_X11_ruled_66 hX hO hΩ _ hk33 (y1) ((y2 + (1 : Int32))) (s0) (y4) σ)
def b_X11_ruled_33   : Nat → Int32 → Int32 → Int32 → Int32 → MS → Option (Int32 × MS)
  | 0, _, _, _, _, _ => none
  | n + 1, y1, y2, y3, y4, σ => (if (sI σ 0 11) ≤ y4 then (if y1 = 0 then (b_X11_ruled_81 (y2) σ) else (b_X11_ruled_81 (y3) σ)) else (f_X11_fitsLogs y4 (0 : Int32) σ).bind (fun r11 => (if r11.1 = 0 then (b_X11_ruled_66 (b_X11_ruled_33  n) (y1) (y2) (y3) (y4) r11.2) else (if y2 = 0 then (b_X11_ruled_62 (b_X11_ruled_33  n) (y1) (y2) (y4) (y4) r11.2) else (b_X11_ruled_62 (b_X11_ruled_33  n) (y1) (y2) (y4) (y3) r11.2)))))
set_option maxHeartbeats 4000000 in
set_option maxRecDepth 20000 in
theorem c_X11_ruled_33 {X : CX} {Ω : OM} (hX : CF X Ω RX11 cX11_ruled 5 (some .int) rm_X11_ruled) (hO : OKO Ω) (hΩ : oSH Ω = SHX)    : ∀ (n : Nat) (y1 : Int32) (y2 : Int32) (y3 : Int32) (y4 : Int32) (σ : MS) , GE X Ω 5 0 0 (emWI) 0 0 33 [(0, .ref 0), (1, .int y1), (2, .int y2), (3, .int y3), (4, .int y4)] [] σ (b_X11_ruled_33  n y1 y2 y3 y4 σ)
  | 0, _, _, _, _, _ => g_none
  | n + 1, y1, y2, y3, y4, σ => by
    have hk33 := c_X11_ruled_33 hX hO hΩ  n
    unfold b_X11_ruled_33
    refine g_iload hX (dc_X11_ruled 18 rfl) 4 rfl ?_
    refine g_aload_n hX (dc_X11_ruled 19 rfl) rfl 0 rfl ?_
    refine g_getI hX (dc_X11_ruled 20 rfl) fl_X11_114 (by decide) rfl (stS hΩ 0 rfl) ?_
    refine g_icmp_ge (tgt := 72) hX (dc_X11_ruled 21 rfl) (by decide) (fun h9 => ?_) (fun h9 => ?_)
    · refine g_iload_n hX (dc_X11_ruled 36 rfl) rfl 1 rfl ?_
      refine g_if_ne (tgt := 80) hX (dc_X11_ruled 37 rfl) (by decide) (fun h10 => ?_) (fun h10 => ?_)
      · refine g_iload_n hX (dc_X11_ruled 38 rfl) rfl 2 rfl ?_
        refine g_goto (tgt := 81) hX (dc_X11_ruled 39 rfl) (by decide) ?_
        exact g_sub [] rfl (c_X11_ruled_81 hX hO hΩ (y2) σ)
      · refine g_iload_n hX (dc_X11_ruled 40 rfl) rfl 3 rfl ?_
        exact g_sub [] rfl (c_X11_ruled_81 hX hO hΩ (y3) σ)
    · refine g_aload_n hX (dc_X11_ruled 22 rfl) rfl 0 rfl ?_
      refine g_iload hX (dc_X11_ruled 23 rfl) 4 rfl ?_
      refine g_iconst (w := (0 : Int32)) hX (dc_X11_ruled 24 rfl) (by decide) ?_
      refine gV_WI (As := [.int y4, .int (0 : Int32)]) (st := []) hX (dc_X11_ruled 25 rfl) ml_X11_323 (con_X11_fitsLogs hO hΩ y4 (0 : Int32) σ) (stS hΩ 0 rfl) rfl rfl ⟨by decide, by decide⟩ ⟨rfl, rfl⟩ ⟨Nat.zero_le _, Nat.zero_le _⟩ (Nat.le_of_ble_eq_true rfl) (fun r11 _ => ?_)
      refine g_if_eq (tgt := 66) hX (dc_X11_ruled 26 rfl) (by decide) (fun h12 => ?_) (fun h12 => ?_)
      · exact g_sub [0, 1, 2, 3, 4] rfl (c_X11_ruled_66 hX hO hΩ _ hk33 (y1) (y2) (y3) (y4) r11.2)
      · refine g_iload_n hX (dc_X11_ruled 27 rfl) rfl 2 rfl ?_
        refine g_if_ne (tgt := 61) hX (dc_X11_ruled 28 rfl) (by decide) (fun h13 => ?_) (fun h13 => ?_)
        · refine g_iload hX (dc_X11_ruled 29 rfl) 4 rfl ?_
          refine g_goto (tgt := 62) hX (dc_X11_ruled 30 rfl) (by decide) ?_
          exact g_sub [0, 1, 2, 4] rfl (c_X11_ruled_62 hX hO hΩ _ hk33 (y1) (y2) (y4) (y4) r11.2)
        · refine g_iload_n hX (dc_X11_ruled 31 rfl) rfl 3 rfl ?_
          exact g_sub [0, 1, 2, 4] rfl (c_X11_ruled_62 hX hO hΩ _ hk33 (y1) (y2) (y4) (y3) r11.2)
def b_X11_ruled_22     (σ : MS) : Option (Int32 × MS) := some ((-3 : Int32), σ)
set_option maxHeartbeats 4000000 in
set_option maxRecDepth 20000 in
theorem c_X11_ruled_22 {X : CX} {Ω : OM} (hX : CF X Ω RX11 cX11_ruled 5 (some .int) rm_X11_ruled) (hO : OKO Ω) (hΩ : oSH Ω = SHX)      (σ : MS)  : GE X Ω 5 0 0 (emWI) 0 0 22 [] [] σ (b_X11_ruled_22  σ) := by
  unfold b_X11_ruled_22
  refine g_bipush (w := (-3 : Int32)) hX (dc_X11_ruled 10 rfl) (by decide) ?_
  exact g_iret hX (dc_X11_ruled 11 rfl) rfl rfl (Nat.le_refl _) (Nat.le_refl _)
def b_X11_ruled_0   (x1 : Int32)  (σ : MS) : Option (Int32 × MS) := (if (sI σ 23 0) = 0 then (b_X11_ruled_22 σ) else (if x1 < 0 then (b_X11_ruled_22 σ) else (if x1 ≤ (1 : Int32) then (b_X11_ruled_33 FU (x1) ((0 : Int32)) ((-2 : Int32)) ((-1 : Int32)) σ) else (b_X11_ruled_22 σ))))
set_option maxHeartbeats 4000000 in
set_option maxRecDepth 20000 in
theorem c_X11_ruled_0 {X : CX} {Ω : OM} (hX : CF X Ω RX11 cX11_ruled 5 (some .int) rm_X11_ruled) (hO : OKO Ω) (hΩ : oSH Ω = SHX)    (x1 : Int32)  (σ : MS)  : GE X Ω 5 0 0 (emWI) 0 0 0 [(0, .ref 0), (1, .int x1)] [] σ (b_X11_ruled_0  x1 σ) := by
  unfold b_X11_ruled_0
  refine g_aload_n hX (dc_X11_ruled 0 rfl) rfl 0 rfl ?_
  refine g_getF (q := 22) hX (dc_X11_ruled 1 rfl) fl_X11_41 (by decide) rfl (stS hΩ 0 rfl) rfl ?_
  refine g_getF (q := 23) hX (dc_X11_ruled 2 rfl) fl_X11_51 (by decide) rfl (stS hΩ 22 rfl) rfl ?_
  refine g_getI hX (dc_X11_ruled 3 rfl) fl_X11_220 (by decide) rfl (stS hΩ 23 rfl) ?_
  refine g_if_eq (tgt := 22) hX (dc_X11_ruled 4 rfl) (by decide) (fun h14 => ?_) (fun h14 => ?_)
  · exact g_sub [] rfl (c_X11_ruled_22 hX hO hΩ σ)
  · refine g_iload_n hX (dc_X11_ruled 5 rfl) rfl 1 rfl ?_
    refine g_if_lt (tgt := 22) hX (dc_X11_ruled 6 rfl) (by decide) (fun h15 => ?_) (fun h15 => ?_)
    · exact g_sub [] rfl (c_X11_ruled_22 hX hO hΩ σ)
    · refine g_iload_n hX (dc_X11_ruled 7 rfl) rfl 1 rfl ?_
      refine g_iconst (w := (1 : Int32)) hX (dc_X11_ruled 8 rfl) (by decide) ?_
      refine g_icmp_le (tgt := 25) hX (dc_X11_ruled 9 rfl) (by decide) (fun h16 => ?_) (fun h16 => ?_)
      · refine g_iconst (w := (0 : Int32)) hX (dc_X11_ruled 12 rfl) (by decide) ?_
        refine g_istore_n (L' := [(2, .int (0 : Int32)), (0, .ref 0), (1, .int x1)]) hX (dc_X11_ruled 13 rfl) rfl (by decide) rfl ?_
        refine g_bipush (w := (-2 : Int32)) hX (dc_X11_ruled 14 rfl) (by decide) ?_
        refine g_istore_n (L' := [(3, .int (-2 : Int32)), (2, .int (0 : Int32)), (0, .ref 0), (1, .int x1)]) hX (dc_X11_ruled 15 rfl) rfl (by decide) rfl ?_
        refine g_iconst (w := (-1 : Int32)) hX (dc_X11_ruled 16 rfl) (by decide) ?_
        refine g_istore (L' := [(4, .int (-1 : Int32)), (3, .int (-2 : Int32)), (2, .int (0 : Int32)), (0, .ref 0), (1, .int x1)]) hX (dc_X11_ruled 17 rfl) (by decide) rfl ?_
        exact g_sub [3, 4, 2, 1, 0] rfl (c_X11_ruled_33 hX hO hΩ FU (x1) ((0 : Int32)) ((-2 : Int32)) ((-1 : Int32)) σ)
      · exact g_sub [] rfl (c_X11_ruled_22 hX hO hΩ σ)
def f_X11_ruled (x1 : Int32) (σ : MS) : Option (Int32 × MS) := b_X11_ruled_0  x1 σ
theorem con_X11_ruled {Ω : OM} (hO : OKO Ω) (hΩ : oSH Ω = SHX) (x1 : Int32) (σ : MS)  : Con Ω yX11_ruled cX11_ruled 5 (some .int) rm_X11_ruled (emWI) [.ref 0, .int x1] σ (f_X11_ruled x1 σ) :=
  con_of hO (by decide +kernel) (Nat.le_of_ble_eq_true rfl) rfl (fun X hX _ => c_X11_ruled_0 hX hO hΩ   x1 σ )
def it_X11_mostAlike : List (Nat × Instr × Nat × Nat) := [(0, .iconst 0, 1, 1), (1, .istore_n 3, 1, 2), (2, .iconst (-1), 1, 3), (3, .istore 4, 2, 5), (5, .iload 4, 2, 7), (7, .aload_n 0, 1, 8), (8, .getfield 41, 3, 11), (11, .getfield 51, 3, 14), (14, .getfield 189, 3, 17), (17, .if_icmp .ge 78, 3, 20), (20, .iconst 0, 1, 21), (21, .istore 5, 2, 23), (23, .iconst 0, 1, 24), (24, .istore 6, 2, 26), (26, .iload 6, 2, 28), (28, .aload_n 0, 1, 29), (29, .getfield 114, 3, 32), (32, .if_icmp .gt 50, 3, 35), (35, .iload_n 1, 1, 36), (36, .iload 6, 2, 38), (38, .ishr, 1, 39), (39, .iconst 1, 1, 40), (40, .iand, 1, 41), (41, .ifCond .eq 7, 3, 44), (44, .iconst 1, 1, 45), (45, .goto 4, 3, 48), (48, .iconst 0, 1, 49), (49, .istore 7, 2, 51), (51, .iload 7, 2, 53), (53, .ifCond .eq 23, 3, 56), (56, .aload_n 0, 1, 57), (57, .getfield 83, 3, 60), (60, .iload 6, 2, 62), (62, .bipush 6, 2, 64), (64, .imul, 1, 65), (65, .iload_n 2, 1, 66), (66, .iadd, 1, 67), (67, .iaload, 1, 68), (68, .iload 4, 2, 70), (70, .if_icmp .ne 6, 3, 73), (73, .iinc 5 1, 3, 76), (76, .iinc 6 1, 3, 79), (79, .goto (-53), 3, 82), (82, .iload_n 3, 1, 83), (83, .iload 5, 2, 85), (85, .invokestatic 335, 3, 88), (88, .istore_n 3, 1, 89), (89, .iinc 4 1, 3, 92), (92, .goto (-87), 3, 95), (95, .iload_n 3, 1, 96), (96, .ireturn, 1, 97)]
theorem id_X11_mostAlike : ∀ q ∈ it_X11_mostAlike, decode cX11_mostAlike q.1 = .ok (q.2.1, q.2.2.1) ∧ q.1 + q.2.2.1 = q.2.2.2 := by decide +kernel
theorem dc_X11_mostAlike {pc : Nat} {i : Instr} {n pc' : Nat} (j : Nat) (h : it_X11_mostAlike[j]? = some (pc, i, n, pc')) : Dc cX11_mostAlike pc i n pc' := dc_of id_X11_mostAlike j h
abbrev rm_X11_mostAlike : Room := { frames := 1, cells := 0, slots := 0, locals := 21 }
def b_X11_mostAlike_76  (k5 : Int32 → Int32 → Int32 → Int32 → MS → Option (Int32)) (k26 : Int32 → Int32 → Int32 → Int32 → Int32 → Int32 → MS → Option (Int32))  (y1 : Int32) (y2 : Int32) (y3 : Int32) (y4 : Int32) (y5 : Int32) (y6 : Int32) (σ : MS) : Option (Int32) := (k26 (y1) (y2) (y3) (y4) (y5) ((y6 + (1 : Int32))) σ)
set_option maxHeartbeats 4000000 in
set_option maxRecDepth 20000 in
theorem c_X11_mostAlike_76 {X : CX} {Ω : OM} (hX : CF X Ω RX11 cX11_mostAlike 8 (some .int) rm_X11_mostAlike) (hO : OKO Ω) (hΩ : oSH Ω = SHX)   (σ : MS) (k5 : Int32 → Int32 → Int32 → Int32 → MS → Option (Int32)) (hk5 : ∀ (y1 : Int32) (y2 : Int32) (y3 : Int32) (y4 : Int32), GE X Ω 8 0 0 (emPI σ) 0 0 5 [(0, .ref 0), (1, .int y1), (2, .int y2), (3, .int y3), (4, .int y4)] [] σ (k5 y1 y2 y3 y4 σ)) (k26 : Int32 → Int32 → Int32 → Int32 → Int32 → Int32 → MS → Option (Int32)) (hk26 : ∀ (y1 : Int32) (y2 : Int32) (y3 : Int32) (y4 : Int32) (y5 : Int32) (y6 : Int32), GE X Ω 8 0 0 (emPI σ) 0 0 26 [(0, .ref 0), (1, .int y1), (2, .int y2), (3, .int y3), (4, .int y4), (5, .int y5), (6, .int y6)] [] σ (k26 y1 y2 y3 y4 y5 y6 σ))  (y1 : Int32) (y2 : Int32) (y3 : Int32) (y4 : Int32) (y5 : Int32) (y6 : Int32)   : GE X Ω 8 0 0 (emPI σ) 0 0 76 [(0, .ref 0), (1, .int y1), (2, .int y2), (3, .int y3), (4, .int y4), (5, .int y5), (6, .int y6)] [] σ (b_X11_mostAlike_76  k5 k26 y1 y2 y3 y4 y5 y6 σ) := by
  unfold b_X11_mostAlike_76
  refine g_iinc (w := (y6 + (1 : Int32))) (L' := [(6, .int (y6 + (1 : Int32))), (0, .ref 0), (1, .int y1), (2, .int y2), (3, .int y3), (4, .int y4), (5, .int y5)]) hX (dc_X11_mostAlike 41 rfl) 6 rfl rfl (by decide) rfl ?_
  refine g_goto (tgt := 26) hX (dc_X11_mostAlike 42 rfl) (by decide) ?_
  exact g_sub [1, 2, 3, 4, 5, 6, 0] rfl (hk26 (y1) (y2) (y3) (y4) (y5) ((y6 + (1 : Int32))) )
def b_X11_mostAlike_49  (k5 : Int32 → Int32 → Int32 → Int32 → MS → Option (Int32)) (k26 : Int32 → Int32 → Int32 → Int32 → Int32 → Int32 → MS → Option (Int32))  (y1 : Int32) (y2 : Int32) (y3 : Int32) (y4 : Int32) (y5 : Int32) (y6 : Int32) (s0 : Int32) (σ : MS) : Option (Int32) := (if s0 = 0 then (b_X11_mostAlike_76 k5 k26 (y1) (y2) (y3) (y4) (y5) (y6) σ) else chk (inb ((y6 * (6 : Int32)) + y2) 42) ((if (sI σ 55 (ix ((y6 * (6 : Int32)) + y2))) = y4 then (b_X11_mostAlike_76 k5 k26 (y1) (y2) (y3) (y4) ((y5 + (1 : Int32))) (y6) σ) else (b_X11_mostAlike_76 k5 k26 (y1) (y2) (y3) (y4) (y5) (y6) σ))))
set_option maxHeartbeats 4000000 in
set_option maxRecDepth 20000 in
theorem c_X11_mostAlike_49 {X : CX} {Ω : OM} (hX : CF X Ω RX11 cX11_mostAlike 8 (some .int) rm_X11_mostAlike) (hO : OKO Ω) (hΩ : oSH Ω = SHX)   (σ : MS) (k5 : Int32 → Int32 → Int32 → Int32 → MS → Option (Int32)) (hk5 : ∀ (y1 : Int32) (y2 : Int32) (y3 : Int32) (y4 : Int32), GE X Ω 8 0 0 (emPI σ) 0 0 5 [(0, .ref 0), (1, .int y1), (2, .int y2), (3, .int y3), (4, .int y4)] [] σ (k5 y1 y2 y3 y4 σ)) (k26 : Int32 → Int32 → Int32 → Int32 → Int32 → Int32 → MS → Option (Int32)) (hk26 : ∀ (y1 : Int32) (y2 : Int32) (y3 : Int32) (y4 : Int32) (y5 : Int32) (y6 : Int32), GE X Ω 8 0 0 (emPI σ) 0 0 26 [(0, .ref 0), (1, .int y1), (2, .int y2), (3, .int y3), (4, .int y4), (5, .int y5), (6, .int y6)] [] σ (k26 y1 y2 y3 y4 y5 y6 σ))  (y1 : Int32) (y2 : Int32) (y3 : Int32) (y4 : Int32) (y5 : Int32) (y6 : Int32) (s0 : Int32)   : GE X Ω 8 0 0 (emPI σ) 0 0 49 [(0, .ref 0), (1, .int y1), (2, .int y2), (3, .int y3), (4, .int y4), (5, .int y5), (6, .int y6)] [.int s0] σ (b_X11_mostAlike_49  k5 k26 y1 y2 y3 y4 y5 y6 s0 σ) := by
  unfold b_X11_mostAlike_49
  refine g_istore (L' := [(7, .int s0), (0, .ref 0), (1, .int y1), (2, .int y2), (3, .int y3), (4, .int y4), (5, .int y5), (6, .int y6)]) hX (dc_X11_mostAlike 27 rfl) (by decide) rfl ?_
  refine g_iload hX (dc_X11_mostAlike 28 rfl) 0 rfl ?_
  refine g_if_eq (tgt := 76) hX (dc_X11_mostAlike 29 rfl) (by decide) (fun h8 => ?_) (fun h8 => ?_)
  · exact g_sub [1, 2, 3, 4, 5, 6, 7] rfl (c_X11_mostAlike_76 hX hO hΩ σ _ hk5 _ hk26 (y1) (y2) (y3) (y4) (y5) (y6))
  · refine g_aload_n hX (dc_X11_mostAlike 30 rfl) rfl 1 rfl ?_
    refine g_getF (q := 55) hX (dc_X11_mostAlike 31 rfl) fl_X11_83 (by decide) rfl (stS hΩ 0 rfl) rfl ?_
    refine g_iload hX (dc_X11_mostAlike 32 rfl) 7 rfl ?_
    refine g_bipush (w := (6 : Int32)) hX (dc_X11_mostAlike 33 rfl) (by decide) ?_
    refine g_imul hX (dc_X11_mostAlike 34 rfl) ?_
    refine g_iload_n hX (dc_X11_mostAlike 35 rfl) rfl 3 rfl ?_
    refine g_iadd hX (dc_X11_mostAlike 36 rfl) ?_
    refine g_chk (fun hc9 => ?_)
    refine g_iald hX (dc_X11_mostAlike 37 rfl) (stS hΩ 55 rfl) hc9 rfl ?_
    refine g_iload hX (dc_X11_mostAlike 38 rfl) 5 rfl ?_
    refine g_icmp_ne (tgt := 76) hX (dc_X11_mostAlike 39 rfl) (by decide) (fun h10 => ?_) (fun h10 => ?_)
    · refine g_iinc (w := (y5 + (1 : Int32))) (L' := [(5, .int (y5 + (1 : Int32))), (7, .int s0), (0, .ref 0), (1, .int y1), (2, .int y2), (3, .int y3), (4, .int y4), (6, .int y6)]) hX (dc_X11_mostAlike 40 rfl) 6 rfl rfl (by decide) rfl ?_
      exact g_sub [2, 3, 4, 5, 6, 0, 7] rfl (c_X11_mostAlike_76 hX hO hΩ σ _ hk5 _ hk26 (y1) (y2) (y3) (y4) ((y5 + (1 : Int32))) (y6))
    · exact g_sub [1, 2, 3, 4, 5, 6, 7] rfl (c_X11_mostAlike_76 hX hO hΩ σ _ hk5 _ hk26 (y1) (y2) (y3) (y4) (y5) (y6))
def b_X11_mostAlike_26  (k5 : Int32 → Int32 → Int32 → Int32 → MS → Option (Int32)) : Nat → Int32 → Int32 → Int32 → Int32 → Int32 → Int32 → MS → Option (Int32)
  | 0, _, _, _, _, _, _, _ => none
  | n + 1, y1, y2, y3, y4, y5, y6, σ => (if (sI σ 0 11) < y6 then (f_J9_max_7cf53 y3 y5).bind (fun r12 => (k5 (y1) (y2) (r12) ((y4 + (1 : Int32))) σ)) else (if ((y1 >>> (y6 &&& 31)) &&& (1 : Int32)) = 0 then (b_X11_mostAlike_49 k5 (b_X11_mostAlike_26  k5 n) (y1) (y2) (y3) (y4) (y5) (y6) ((0 : Int32)) σ) else (b_X11_mostAlike_49 k5 (b_X11_mostAlike_26  k5 n) (y1) (y2) (y3) (y4) (y5) (y6) ((1 : Int32)) σ)))
set_option maxHeartbeats 4000000 in
set_option maxRecDepth 20000 in
theorem c_X11_mostAlike_26 {X : CX} {Ω : OM} (hX : CF X Ω RX11 cX11_mostAlike 8 (some .int) rm_X11_mostAlike) (hO : OKO Ω) (hΩ : oSH Ω = SHX)   (σ : MS) (k5 : Int32 → Int32 → Int32 → Int32 → MS → Option (Int32)) (hk5 : ∀ (y1 : Int32) (y2 : Int32) (y3 : Int32) (y4 : Int32), GE X Ω 8 0 0 (emPI σ) 0 0 5 [(0, .ref 0), (1, .int y1), (2, .int y2), (3, .int y3), (4, .int y4)] [] σ (k5 y1 y2 y3 y4 σ)) : ∀ (n : Nat) (y1 : Int32) (y2 : Int32) (y3 : Int32) (y4 : Int32) (y5 : Int32) (y6 : Int32)  , GE X Ω 8 0 0 (emPI σ) 0 0 26 [(0, .ref 0), (1, .int y1), (2, .int y2), (3, .int y3), (4, .int y4), (5, .int y5), (6, .int y6)] [] σ (b_X11_mostAlike_26  k5 n y1 y2 y3 y4 y5 y6 σ)
  | 0, _, _, _, _, _, _ => g_none
  | n + 1, y1, y2, y3, y4, y5, y6 => by
    have hk26 := c_X11_mostAlike_26 hX hO hΩ  σ k5 hk5 n
    unfold b_X11_mostAlike_26
    refine g_iload hX (dc_X11_mostAlike 14 rfl) 6 rfl ?_
    refine g_aload_n hX (dc_X11_mostAlike 15 rfl) rfl 0 rfl ?_
    refine g_getI hX (dc_X11_mostAlike 16 rfl) fl_X11_114 (by decide) rfl (stS hΩ 0 rfl) ?_
    refine g_icmp_gt (tgt := 82) hX (dc_X11_mostAlike 17 rfl) (by decide) (fun h11 => ?_) (fun h11 => ?_)
    · refine g_iload_n hX (dc_X11_mostAlike 43 rfl) rfl 3 rfl ?_
      refine g_iload hX (dc_X11_mostAlike 44 rfl) 5 rfl ?_
      refine gS_PI (As := [.int y3, .int y5]) (st := []) hX (dc_X11_mostAlike 45 rfl) ml_X11_335 (con_J9_max_7cf53 hO hΩ y3 y5 σ) rfl rfl ⟨by decide, by decide⟩ ⟨rfl, rfl⟩ ⟨Nat.zero_le _, Nat.zero_le _⟩ (Nat.le_of_ble_eq_true rfl) (fun r12 _ => ?_)
      refine g_istore_n (L' := [(3, .int r12), (0, .ref 0), (1, .int y1), (2, .int y2), (4, .int y4), (5, .int y5), (6, .int y6)]) hX (dc_X11_mostAlike 46 rfl) rfl (by decide) rfl ?_
      refine g_iinc (w := (y4 + (1 : Int32))) (L' := [(4, .int (y4 + (1 : Int32))), (3, .int r12), (0, .ref 0), (1, .int y1), (2, .int y2), (5, .int y5), (6, .int y6)]) hX (dc_X11_mostAlike 47 rfl) 4 rfl rfl (by decide) rfl ?_
      refine g_goto (tgt := 5) hX (dc_X11_mostAlike 48 rfl) (by decide) ?_
      exact g_sub [2, 3, 4, 1, 0] rfl (hk5 (y1) (y2) (r12) ((y4 + (1 : Int32))) )
    · refine g_iload_n hX (dc_X11_mostAlike 18 rfl) rfl 1 rfl ?_
      refine g_iload hX (dc_X11_mostAlike 19 rfl) 6 rfl ?_
      refine g_ishr hX (dc_X11_mostAlike 20 rfl) ?_
      refine g_iconst (w := (1 : Int32)) hX (dc_X11_mostAlike 21 rfl) (by decide) ?_
      refine g_iand hX (dc_X11_mostAlike 22 rfl) ?_
      refine g_if_eq (tgt := 48) hX (dc_X11_mostAlike 23 rfl) (by decide) (fun h13 => ?_) (fun h13 => ?_)
      · refine g_iconst (w := (0 : Int32)) hX (dc_X11_mostAlike 26 rfl) (by decide) ?_
        exact g_sub [0, 1, 2, 3, 4, 5, 6] rfl (c_X11_mostAlike_49 hX hO hΩ σ _ hk5 _ hk26 (y1) (y2) (y3) (y4) (y5) (y6) ((0 : Int32)))
      · refine g_iconst (w := (1 : Int32)) hX (dc_X11_mostAlike 24 rfl) (by decide) ?_
        refine g_goto (tgt := 49) hX (dc_X11_mostAlike 25 rfl) (by decide) ?_
        exact g_sub [0, 1, 2, 3, 4, 5, 6] rfl (c_X11_mostAlike_49 hX hO hΩ σ _ hk5 _ hk26 (y1) (y2) (y3) (y4) (y5) (y6) ((1 : Int32)))
def b_X11_mostAlike_5   : Nat → Int32 → Int32 → Int32 → Int32 → MS → Option (Int32)
  | 0, _, _, _, _, _ => none
  | n + 1, y1, y2, y3, y4, σ => (if (sI σ 23 3) ≤ y4 then some y3 else (b_X11_mostAlike_26 (b_X11_mostAlike_5  n) FU (y1) (y2) (y3) (y4) ((0 : Int32)) ((0 : Int32)) σ))
set_option maxHeartbeats 4000000 in
set_option maxRecDepth 20000 in
theorem c_X11_mostAlike_5 {X : CX} {Ω : OM} (hX : CF X Ω RX11 cX11_mostAlike 8 (some .int) rm_X11_mostAlike) (hO : OKO Ω) (hΩ : oSH Ω = SHX)   (σ : MS)  : ∀ (n : Nat) (y1 : Int32) (y2 : Int32) (y3 : Int32) (y4 : Int32)  , GE X Ω 8 0 0 (emPI σ) 0 0 5 [(0, .ref 0), (1, .int y1), (2, .int y2), (3, .int y3), (4, .int y4)] [] σ (b_X11_mostAlike_5  n y1 y2 y3 y4 σ)
  | 0, _, _, _, _ => g_none
  | n + 1, y1, y2, y3, y4 => by
    have hk5 := c_X11_mostAlike_5 hX hO hΩ  σ n
    unfold b_X11_mostAlike_5
    refine g_iload hX (dc_X11_mostAlike 4 rfl) 4 rfl ?_
    refine g_aload_n hX (dc_X11_mostAlike 5 rfl) rfl 0 rfl ?_
    refine g_getF (q := 22) hX (dc_X11_mostAlike 6 rfl) fl_X11_41 (by decide) rfl (stS hΩ 0 rfl) rfl ?_
    refine g_getF (q := 23) hX (dc_X11_mostAlike 7 rfl) fl_X11_51 (by decide) rfl (stS hΩ 22 rfl) rfl ?_
    refine g_getI hX (dc_X11_mostAlike 8 rfl) fl_X11_189 (by decide) rfl (stS hΩ 23 rfl) ?_
    refine g_icmp_ge (tgt := 95) hX (dc_X11_mostAlike 9 rfl) (by decide) (fun h14 => ?_) (fun h14 => ?_)
    · refine g_iload_n hX (dc_X11_mostAlike 49 rfl) rfl 3 rfl ?_
      exact g_iret hX (dc_X11_mostAlike 50 rfl) rfl rfl (Nat.le_refl _) (Nat.le_refl _)
    · refine g_iconst (w := (0 : Int32)) hX (dc_X11_mostAlike 10 rfl) (by decide) ?_
      refine g_istore (L' := [(5, .int (0 : Int32)), (0, .ref 0), (1, .int y1), (2, .int y2), (3, .int y3), (4, .int y4)]) hX (dc_X11_mostAlike 11 rfl) (by decide) rfl ?_
      refine g_iconst (w := (0 : Int32)) hX (dc_X11_mostAlike 12 rfl) (by decide) ?_
      refine g_istore (L' := [(6, .int (0 : Int32)), (5, .int (0 : Int32)), (0, .ref 0), (1, .int y1), (2, .int y2), (3, .int y3), (4, .int y4)]) hX (dc_X11_mostAlike 13 rfl) (by decide) rfl ?_
      exact g_sub [2, 3, 4, 5, 6, 1, 0] rfl (c_X11_mostAlike_26 hX hO hΩ σ _ hk5 FU (y1) (y2) (y3) (y4) ((0 : Int32)) ((0 : Int32)))
def b_X11_mostAlike_0   (x1 : Int32) (x2 : Int32)  (σ : MS) : Option (Int32) := (b_X11_mostAlike_5 FU (x1) (x2) ((0 : Int32)) ((-1 : Int32)) σ)
set_option maxHeartbeats 4000000 in
set_option maxRecDepth 20000 in
theorem c_X11_mostAlike_0 {X : CX} {Ω : OM} (hX : CF X Ω RX11 cX11_mostAlike 8 (some .int) rm_X11_mostAlike) (hO : OKO Ω) (hΩ : oSH Ω = SHX)   (σ : MS)  (x1 : Int32) (x2 : Int32)    : GE X Ω 8 0 0 (emPI σ) 0 0 0 [(0, .ref 0), (1, .int x1), (2, .int x2)] [] σ (b_X11_mostAlike_0  x1 x2 σ) := by
  unfold b_X11_mostAlike_0
  refine g_iconst (w := (0 : Int32)) hX (dc_X11_mostAlike 0 rfl) (by decide) ?_
  refine g_istore_n (L' := [(3, .int (0 : Int32)), (0, .ref 0), (1, .int x1), (2, .int x2)]) hX (dc_X11_mostAlike 1 rfl) rfl (by decide) rfl ?_
  refine g_iconst (w := (-1 : Int32)) hX (dc_X11_mostAlike 2 rfl) (by decide) ?_
  refine g_istore (L' := [(4, .int (-1 : Int32)), (3, .int (0 : Int32)), (0, .ref 0), (1, .int x1), (2, .int x2)]) hX (dc_X11_mostAlike 3 rfl) (by decide) rfl ?_
  exact g_sub [2, 3, 4, 1, 0] rfl (c_X11_mostAlike_5 hX hO hΩ σ FU (x1) (x2) ((0 : Int32)) ((-1 : Int32)))
def f_X11_mostAlike (x1 : Int32) (x2 : Int32) (σ : MS) : Option (Int32) := b_X11_mostAlike_0  x1 x2 σ
theorem con_X11_mostAlike {Ω : OM} (hO : OKO Ω) (hΩ : oSH Ω = SHX) (x1 : Int32) (x2 : Int32) (σ : MS)  : Con Ω yX11_mostAlike cX11_mostAlike 8 (some .int) rm_X11_mostAlike (emPI σ) [.ref 0, .int x1, .int x2] σ (f_X11_mostAlike x1 x2 σ) :=
  con_of hO (by decide +kernel) (Nat.le_of_ble_eq_true rfl) rfl (fun X hX _ => c_X11_mostAlike_0 hX hO hΩ   σ x1 x2)
def it_X11_look : List (Nat × Instr × Nat × Nat) := [(0, .aload_n 0, 1, 1), (1, .getfield 41, 3, 4), (4, .getfield 51, 3, 7), (7, .getfield 220, 3, 10), (10, .ifCond .eq 22, 3, 13), (13, .iload_n 1, 1, 14), (14, .ifCond .lt 18, 3, 17), (17, .iload_n 1, 1, 18), (18, .bipush 60, 2, 20), (20, .if_icmp .gt 12, 3, 23), (23, .iload_n 2, 1, 24), (24, .ifCond .lt 8, 3, 27), (27, .iload_n 2, 1, 28), (28, .iconst 1, 1, 29), (29, .if_icmp .le 5, 3, 32), (32, .iconst (-1), 1, 33), (33, .ireturn, 1, 34), (34, .iconst 0, 1, 35), (35, .istore_n 3, 1, 36), (36, .iconst (-1), 1, 37), (37, .istore 4, 2, 39), (39, .iload 4, 2, 41), (41, .aload_n 0, 1, 42), (42, .getfield 114, 3, 45), (45, .if_icmp .ge 28, 3, 48), (48, .aload_n 0, 1, 49), (49, .iload 4, 2, 51), (51, .iload_n 1, 1, 52), (52, .invokevirtual 323, 3, 55), (55, .ifCond .eq 12, 3, 58), (58, .iload_n 3, 1, 59), (59, .iconst 1, 1, 60), (60, .iload 4, 2, 62), (62, .iconst 1, 1, 63), (63, .iadd, 1, 64), (64, .ishl, 1, 65), (65, .ior, 1, 66), (66, .istore_n 3, 1, 67), (67, .iinc 4 1, 3, 70), (70, .goto (-31), 3, 73), (73, .iload_n 3, 1, 74), (74, .ifCond .ne 6, 3, 77), (77, .bipush (-2), 2, 79), (79, .ireturn, 1, 80), (80, .bipush (-2), 2, 82), (82, .istore 4, 2, 84), (84, .bipush (-2), 2, 86), (86, .istore 5, 2, 88), (88, .iconst 0, 1, 89), (89, .istore 6, 2, 91), (91, .iload 6, 2, 93), (93, .aload_n 0, 1, 94), (94, .getfield 41, 3, 97), (97, .getfield 51, 3, 100), (100, .getfield 109, 3, 103), (103, .if_icmp .ge 40, 3, 106), (106, .aload_n 0, 1, 107), (107, .iload_n 3, 1, 108), (108, .iload 6, 2, 110), (110, .invokevirtual 326, 3, 113), (113, .istore 7, 2, 115), (115, .iload 4, 2, 117), (117, .bipush (-2), 2, 119), (119, .if_icmp .eq 10, 3, 122), (122, .iload 7, 2, 124), (124, .iload 5, 2, 126), (126, .if_icmp .ge 11, 3, 129), (129, .iload 6, 2, 131), (131, .istore 4, 2, 133), (133, .iload 7, 2, 135), (135, .istore 5, 2, 137), (137, .iinc 6 1, 3, 140), (140, .goto (-49), 3, 143), (143, .iload_n 2, 1, 144), (144, .ifCond .ne 8, 3, 147), (147, .iload 4, 2, 149), (149, .goto 5, 3, 152), (152, .iload 5, 2, 154), (154, .ireturn, 1, 155)]
theorem id_X11_look : ∀ q ∈ it_X11_look, decode cX11_look q.1 = .ok (q.2.1, q.2.2.1) ∧ q.1 + q.2.2.1 = q.2.2.2 := by decide +kernel
theorem dc_X11_look {pc : Nat} {i : Instr} {n pc' : Nat} (j : Nat) (h : it_X11_look[j]? = some (pc, i, n, pc')) : Dc cX11_look pc i n pc' := dc_of id_X11_look j h
abbrev rm_X11_look : Room := { frames := 7, cells := 0, slots := 0, locals := 172 }
def b_X11_look_154    (s0 : Int32) (σ : MS) : Option (Int32 × MS) := some (s0, σ)
set_option maxHeartbeats 4000000 in
set_option maxRecDepth 20000 in
theorem c_X11_look_154 {X : CX} {Ω : OM} (hX : CF X Ω RX11 cX11_look 8 (some .int) rm_X11_look) (hO : OKO Ω) (hΩ : oSH Ω = SHX)     (s0 : Int32) (σ : MS)  : GE X Ω 8 0 0 (emWI) 0 0 154 [] [.int s0] σ (b_X11_look_154  s0 σ) := by
  unfold b_X11_look_154
  exact g_iret hX (dc_X11_look 78 rfl) rfl rfl (Nat.le_refl _) (Nat.le_refl _)
def b_X11_look_137  (k91 : Int32 → Int32 → Int32 → Int32 → Int32 → MS → Option (Int32 × MS))  (y2 : Int32) (y3 : Int32) (y4 : Int32) (y5 : Int32) (y6 : Int32) (σ : MS) : Option (Int32 × MS) := (k91 (y2) (y3) (y4) (y5) ((y6 + (1 : Int32))) σ)
set_option maxHeartbeats 4000000 in
set_option maxRecDepth 20000 in
theorem c_X11_look_137 {X : CX} {Ω : OM} (hX : CF X Ω RX11 cX11_look 8 (some .int) rm_X11_look) (hO : OKO Ω) (hΩ : oSH Ω = SHX)   (k91 : Int32 → Int32 → Int32 → Int32 → Int32 → MS → Option (Int32 × MS)) (hk91 : ∀ (y2 : Int32) (y3 : Int32) (y4 : Int32) (y5 : Int32) (y6 : Int32) (σ : MS) , GE X Ω 8 0 0 (emWI) 0 0 91 [(0, .ref 0), (2, .int y2), (3, .int y3), (4, .int y4), (5, .int y5), (6, .int y6)] [] σ (k91 y2 y3 y4 y5 y6 σ))  (y2 : Int32) (y3 : Int32) (y4 : Int32) (y5 : Int32) (y6 : Int32) (σ : MS)  : GE X Ω 8 0 0 (emWI) 0 0 137 [(0, .ref 0), (2, .int y2), (3, .int y3), (4, .int y4), (5, .int y5), (6, .int y6)] [] σ (b_X11_look_137  k91 y2 y3 y4 y5 y6 σ) := by
  unfold b_X11_look_137
  refine g_iinc (w := (y6 + (1 : Int32))) (L' := [(6, .int (y6 + (1 : Int32))), (0, .ref 0), (2, .int y2), (3, .int y3), (4, .int y4), (5, .int y5)]) hX (dc_X11_look 71 rfl) 5 rfl rfl (by decide) rfl ?_
  refine g_goto (tgt := 91) hX (dc_X11_look 72 rfl) (by decide) ?_
  exact g_sub [1, 2, 3, 4, 5, 0] rfl (hk91 (y2) (y3) (y4) (y5) ((y6 + (1 : Int32))) σ )
def b_X11_look_129  (k91 : Int32 → Int32 → Int32 → Int32 → Int32 → MS → Option (Int32 × MS))  (y2 : Int32) (y3 : Int32) (y6 : Int32) (y7 : Int32) (σ : MS) : Option (Int32 × MS) := (b_X11_look_137 k91 (y2) (y3) (y6) (y7) (y6) σ)
set_option maxHeartbeats 4000000 in
set_option maxRecDepth 20000 in
theorem c_X11_look_129 {X : CX} {Ω : OM} (hX : CF X Ω RX11 cX11_look 8 (some .int) rm_X11_look) (hO : OKO Ω) (hΩ : oSH Ω = SHX)   (k91 : Int32 → Int32 → Int32 → Int32 → Int32 → MS → Option (Int32 × MS)) (hk91 : ∀ (y2 : Int32) (y3 : Int32) (y4 : Int32) (y5 : Int32) (y6 : Int32) (σ : MS) , GE X Ω 8 0 0 (emWI) 0 0 91 [(0, .ref 0), (2, .int y2), (3, .int y3), (4, .int y4), (5, .int y5), (6, .int y6)] [] σ (k91 y2 y3 y4 y5 y6 σ))  (y2 : Int32) (y3 : Int32) (y6 : Int32) (y7 : Int32) (σ : MS)  : GE X Ω 8 0 0 (emWI) 0 0 129 [(0, .ref 0), (2, .int y2), (3, .int y3), (6, .int y6), (7, .int y7)] [] σ (b_X11_look_129  k91 y2 y3 y6 y7 σ) := by
  unfold b_X11_look_129
  refine g_iload hX (dc_X11_look 67 rfl) 3 rfl ?_
  refine g_istore (L' := [(4, .int y6), (0, .ref 0), (2, .int y2), (3, .int y3), (6, .int y6), (7, .int y7)]) hX (dc_X11_look 68 rfl) (by decide) rfl ?_
  refine g_iload hX (dc_X11_look 69 rfl) 5 rfl ?_
  refine g_istore (L' := [(5, .int y7), (4, .int y6), (0, .ref 0), (2, .int y2), (3, .int y3), (6, .int y6), (7, .int y7)]) hX (dc_X11_look 70 rfl) (by decide) rfl ?_
  exact g_sub [2, 3, 4, 1, 0, 5] rfl (c_X11_look_137 hX hO hΩ _ hk91 (y2) (y3) (y6) (y7) (y6) σ)
def b_X11_look_91   : Nat → Int32 → Int32 → Int32 → Int32 → Int32 → MS → Option (Int32 × MS)
  | 0, _, _, _, _, _, _ => none
  | n + 1, y2, y3, y4, y5, y6, σ => (if (sI σ 23 4) ≤ y6 then (if y2 = 0 then (b_X11_look_154 (y4) σ) else (b_X11_look_154 (y5) σ)) else (f_X11_mostAlike y3 y6 σ).bind (fun r17 => (if y4 = (-2 : Int32) then (b_X11_look_129 (b_X11_look_91  n) (y2) (y3) (y6) (r17) σ) else (if y5 ≤ r17 then (b_X11_look_137 (b_X11_look_91  n) (y2) (y3) (y4) (y5) (y6) σ) else (b_X11_look_129 (b_X11_look_91  n) (y2) (y3) (y6) (r17) σ)))))
set_option maxHeartbeats 4000000 in
set_option maxRecDepth 20000 in
theorem c_X11_look_91 {X : CX} {Ω : OM} (hX : CF X Ω RX11 cX11_look 8 (some .int) rm_X11_look) (hO : OKO Ω) (hΩ : oSH Ω = SHX)    : ∀ (n : Nat) (y2 : Int32) (y3 : Int32) (y4 : Int32) (y5 : Int32) (y6 : Int32) (σ : MS) , GE X Ω 8 0 0 (emWI) 0 0 91 [(0, .ref 0), (2, .int y2), (3, .int y3), (4, .int y4), (5, .int y5), (6, .int y6)] [] σ (b_X11_look_91  n y2 y3 y4 y5 y6 σ)
  | 0, _, _, _, _, _, _ => g_none
  | n + 1, y2, y3, y4, y5, y6, σ => by
    have hk91 := c_X11_look_91 hX hO hΩ  n
    unfold b_X11_look_91
    refine g_iload hX (dc_X11_look 50 rfl) 5 rfl ?_
    refine g_aload_n hX (dc_X11_look 51 rfl) rfl 0 rfl ?_
    refine g_getF (q := 22) hX (dc_X11_look 52 rfl) fl_X11_41 (by decide) rfl (stS hΩ 0 rfl) rfl ?_
    refine g_getF (q := 23) hX (dc_X11_look 53 rfl) fl_X11_51 (by decide) rfl (stS hΩ 22 rfl) rfl ?_
    refine g_getI hX (dc_X11_look 54 rfl) fl_X11_109 (by decide) rfl (stS hΩ 23 rfl) ?_
    refine g_icmp_ge (tgt := 143) hX (dc_X11_look 55 rfl) (by decide) (fun h15 => ?_) (fun h15 => ?_)
    · refine g_iload_n hX (dc_X11_look 73 rfl) rfl 1 rfl ?_
      refine g_if_ne (tgt := 152) hX (dc_X11_look 74 rfl) (by decide) (fun h16 => ?_) (fun h16 => ?_)
      · refine g_iload hX (dc_X11_look 75 rfl) 3 rfl ?_
        refine g_goto (tgt := 154) hX (dc_X11_look 76 rfl) (by decide) ?_
        exact g_sub [] rfl (c_X11_look_154 hX hO hΩ (y4) σ)
      · refine g_iload hX (dc_X11_look 77 rfl) 4 rfl ?_
        exact g_sub [] rfl (c_X11_look_154 hX hO hΩ (y5) σ)
    · refine g_aload_n hX (dc_X11_look 56 rfl) rfl 0 rfl ?_
      refine g_iload_n hX (dc_X11_look 57 rfl) rfl 2 rfl ?_
      refine g_iload hX (dc_X11_look 58 rfl) 5 rfl ?_
      refine gV_PI (As := [.int y3, .int y6]) (st := []) hX (dc_X11_look 59 rfl) ml_X11_326 (con_X11_mostAlike hO hΩ y3 y6 σ) (stS hΩ 0 rfl) rfl rfl ⟨by decide, by decide⟩ ⟨rfl, rfl⟩ ⟨Nat.zero_le _, Nat.zero_le _⟩ (Nat.le_of_ble_eq_true rfl) (fun r17 _ => ?_)
      refine g_istore (L' := [(7, .int r17), (0, .ref 0), (2, .int y2), (3, .int y3), (4, .int y4), (5, .int y5), (6, .int y6)]) hX (dc_X11_look 60 rfl) (by decide) rfl ?_
      refine g_iload hX (dc_X11_look 61 rfl) 4 rfl ?_
      refine g_bipush (w := (-2 : Int32)) hX (dc_X11_look 62 rfl) (by decide) ?_
      refine g_icmp_eq (tgt := 129) hX (dc_X11_look 63 rfl) (by decide) (fun h18 => ?_) (fun h18 => ?_)
      · exact g_sub [1, 2, 3, 6, 0] rfl (c_X11_look_129 hX hO hΩ _ hk91 (y2) (y3) (y6) (r17) σ)
      · refine g_iload hX (dc_X11_look 64 rfl) 0 rfl ?_
        refine g_iload hX (dc_X11_look 65 rfl) 5 rfl ?_
        refine g_icmp_ge (tgt := 137) hX (dc_X11_look 66 rfl) (by decide) (fun h19 => ?_) (fun h19 => ?_)
        · exact g_sub [1, 2, 3, 4, 5, 6] rfl (c_X11_look_137 hX hO hΩ _ hk91 (y2) (y3) (y4) (y5) (y6) σ)
        · exact g_sub [1, 2, 3, 6, 0] rfl (c_X11_look_129 hX hO hΩ _ hk91 (y2) (y3) (y6) (r17) σ)
def b_X11_look_67  (k39 : Int32 → Int32 → Int32 → Int32 → MS → Option (Int32 × MS))  (y1 : Int32) (y2 : Int32) (y3 : Int32) (y4 : Int32) (σ : MS) : Option (Int32 × MS) := (k39 (y1) (y2) (y3) ((y4 + (1 : Int32))) σ)
set_option maxHeartbeats 4000000 in
set_option maxRecDepth 20000 in
theorem c_X11_look_67 {X : CX} {Ω : OM} (hX : CF X Ω RX11 cX11_look 8 (some .int) rm_X11_look) (hO : OKO Ω) (hΩ : oSH Ω = SHX)   (k39 : Int32 → Int32 → Int32 → Int32 → MS → Option (Int32 × MS)) (hk39 : ∀ (y1 : Int32) (y2 : Int32) (y3 : Int32) (y4 : Int32) (σ : MS) , GE X Ω 8 0 0 (emWI) 0 0 39 [(0, .ref 0), (1, .int y1), (2, .int y2), (3, .int y3), (4, .int y4)] [] σ (k39 y1 y2 y3 y4 σ))  (y1 : Int32) (y2 : Int32) (y3 : Int32) (y4 : Int32) (σ : MS)  : GE X Ω 8 0 0 (emWI) 0 0 67 [(0, .ref 0), (1, .int y1), (2, .int y2), (3, .int y3), (4, .int y4)] [] σ (b_X11_look_67  k39 y1 y2 y3 y4 σ) := by
  unfold b_X11_look_67
  refine g_iinc (w := (y4 + (1 : Int32))) (L' := [(4, .int (y4 + (1 : Int32))), (0, .ref 0), (1, .int y1), (2, .int y2), (3, .int y3)]) hX (dc_X11_look 38 rfl) 4 rfl rfl (by decide) rfl ?_
  refine g_goto (tgt := 39) hX (dc_X11_look 39 rfl) (by decide) ?_
  exact g_sub [1, 2, 3, 4, 0] rfl (hk39 (y1) (y2) (y3) ((y4 + (1 : Int32))) σ )
def b_X11_look_39   : Nat → Int32 → Int32 → Int32 → Int32 → MS → Option (Int32 × MS)
  | 0, _, _, _, _, _ => none
  | n + 1, y1, y2, y3, y4, σ => (if (sI σ 0 11) ≤ y4 then (if y3 = 0 then some ((-2 : Int32), σ) else (b_X11_look_91 FU (y2) (y3) ((-2 : Int32)) ((-2 : Int32)) ((0 : Int32)) σ)) else (f_X11_fitsLogs y4 y1 σ).bind (fun r22 => (if r22.1 = 0 then (b_X11_look_67 (b_X11_look_39  n) (y1) (y2) (y3) (y4) r22.2) else (b_X11_look_67 (b_X11_look_39  n) (y1) (y2) ((y3 ||| ((1 : Int32) <<< ((y4 + (1 : Int32)) &&& 31)))) (y4) r22.2))))
set_option maxHeartbeats 4000000 in
set_option maxRecDepth 20000 in
theorem c_X11_look_39 {X : CX} {Ω : OM} (hX : CF X Ω RX11 cX11_look 8 (some .int) rm_X11_look) (hO : OKO Ω) (hΩ : oSH Ω = SHX)    : ∀ (n : Nat) (y1 : Int32) (y2 : Int32) (y3 : Int32) (y4 : Int32) (σ : MS) , GE X Ω 8 0 0 (emWI) 0 0 39 [(0, .ref 0), (1, .int y1), (2, .int y2), (3, .int y3), (4, .int y4)] [] σ (b_X11_look_39  n y1 y2 y3 y4 σ)
  | 0, _, _, _, _, _ => g_none
  | n + 1, y1, y2, y3, y4, σ => by
    have hk39 := c_X11_look_39 hX hO hΩ  n
    unfold b_X11_look_39
    refine g_iload hX (dc_X11_look 21 rfl) 4 rfl ?_
    refine g_aload_n hX (dc_X11_look 22 rfl) rfl 0 rfl ?_
    refine g_getI hX (dc_X11_look 23 rfl) fl_X11_114 (by decide) rfl (stS hΩ 0 rfl) ?_
    refine g_icmp_ge (tgt := 73) hX (dc_X11_look 24 rfl) (by decide) (fun h20 => ?_) (fun h20 => ?_)
    · refine g_iload_n hX (dc_X11_look 40 rfl) rfl 3 rfl ?_
      refine g_if_ne (tgt := 80) hX (dc_X11_look 41 rfl) (by decide) (fun h21 => ?_) (fun h21 => ?_)
      · refine g_bipush (w := (-2 : Int32)) hX (dc_X11_look 42 rfl) (by decide) ?_
        exact g_iret hX (dc_X11_look 43 rfl) rfl rfl (Nat.le_refl _) (Nat.le_refl _)
      · refine g_bipush (w := (-2 : Int32)) hX (dc_X11_look 44 rfl) (by decide) ?_
        refine g_istore (L' := [(4, .int (-2 : Int32)), (0, .ref 0), (1, .int y1), (2, .int y2), (3, .int y3)]) hX (dc_X11_look 45 rfl) (by decide) rfl ?_
        refine g_bipush (w := (-2 : Int32)) hX (dc_X11_look 46 rfl) (by decide) ?_
        refine g_istore (L' := [(5, .int (-2 : Int32)), (4, .int (-2 : Int32)), (0, .ref 0), (1, .int y1), (2, .int y2), (3, .int y3)]) hX (dc_X11_look 47 rfl) (by decide) rfl ?_
        refine g_iconst (w := (0 : Int32)) hX (dc_X11_look 48 rfl) (by decide) ?_
        refine g_istore (L' := [(6, .int (0 : Int32)), (5, .int (-2 : Int32)), (4, .int (-2 : Int32)), (0, .ref 0), (1, .int y1), (2, .int y2), (3, .int y3)]) hX (dc_X11_look 49 rfl) (by decide) rfl ?_
        exact g_sub [3, 5, 6, 2, 1, 0] rfl (c_X11_look_91 hX hO hΩ FU (y2) (y3) ((-2 : Int32)) ((-2 : Int32)) ((0 : Int32)) σ)
    · refine g_aload_n hX (dc_X11_look 25 rfl) rfl 0 rfl ?_
      refine g_iload hX (dc_X11_look 26 rfl) 4 rfl ?_
      refine g_iload_n hX (dc_X11_look 27 rfl) rfl 1 rfl ?_
      refine gV_WI (As := [.int y4, .int y1]) (st := []) hX (dc_X11_look 28 rfl) ml_X11_323 (con_X11_fitsLogs hO hΩ y4 y1 σ) (stS hΩ 0 rfl) rfl rfl ⟨by decide, by decide⟩ ⟨rfl, rfl⟩ ⟨Nat.zero_le _, Nat.zero_le _⟩ (Nat.le_of_ble_eq_true rfl) (fun r22 _ => ?_)
      refine g_if_eq (tgt := 67) hX (dc_X11_look 29 rfl) (by decide) (fun h23 => ?_) (fun h23 => ?_)
      · exact g_sub [0, 1, 2, 3, 4] rfl (c_X11_look_67 hX hO hΩ _ hk39 (y1) (y2) (y3) (y4) r22.2)
      · refine g_iload_n hX (dc_X11_look 30 rfl) rfl 3 rfl ?_
        refine g_iconst (w := (1 : Int32)) hX (dc_X11_look 31 rfl) (by decide) ?_
        refine g_iload hX (dc_X11_look 32 rfl) 4 rfl ?_
        refine g_iconst (w := (1 : Int32)) hX (dc_X11_look 33 rfl) (by decide) ?_
        refine g_iadd hX (dc_X11_look 34 rfl) ?_
        refine g_ishl hX (dc_X11_look 35 rfl) ?_
        refine g_ior hX (dc_X11_look 36 rfl) ?_
        refine g_istore_n (L' := [(3, .int (y3 ||| ((1 : Int32) <<< ((y4 + (1 : Int32)) &&& 31)))), (0, .ref 0), (1, .int y1), (2, .int y2), (4, .int y4)]) hX (dc_X11_look 37 rfl) rfl (by decide) rfl ?_
        exact g_sub [1, 2, 3, 0, 4] rfl (c_X11_look_67 hX hO hΩ _ hk39 (y1) (y2) ((y3 ||| ((1 : Int32) <<< ((y4 + (1 : Int32)) &&& 31)))) (y4) r22.2)
def b_X11_look_32     (σ : MS) : Option (Int32 × MS) := some ((-1 : Int32), σ)
set_option maxHeartbeats 4000000 in
set_option maxRecDepth 20000 in
theorem c_X11_look_32 {X : CX} {Ω : OM} (hX : CF X Ω RX11 cX11_look 8 (some .int) rm_X11_look) (hO : OKO Ω) (hΩ : oSH Ω = SHX)      (σ : MS)  : GE X Ω 8 0 0 (emWI) 0 0 32 [] [] σ (b_X11_look_32  σ) := by
  unfold b_X11_look_32
  refine g_iconst (w := (-1 : Int32)) hX (dc_X11_look 15 rfl) (by decide) ?_
  exact g_iret hX (dc_X11_look 16 rfl) rfl rfl (Nat.le_refl _) (Nat.le_refl _)
def b_X11_look_0   (x1 : Int32) (x2 : Int32)  (σ : MS) : Option (Int32 × MS) := (if (sI σ 23 0) = 0 then (b_X11_look_32 σ) else (if x1 < 0 then (b_X11_look_32 σ) else (if (60 : Int32) < x1 then (b_X11_look_32 σ) else (if x2 < 0 then (b_X11_look_32 σ) else (if x2 ≤ (1 : Int32) then (b_X11_look_39 FU (x1) (x2) ((0 : Int32)) ((-1 : Int32)) σ) else (b_X11_look_32 σ))))))
set_option maxHeartbeats 4000000 in
set_option maxRecDepth 20000 in
theorem c_X11_look_0 {X : CX} {Ω : OM} (hX : CF X Ω RX11 cX11_look 8 (some .int) rm_X11_look) (hO : OKO Ω) (hΩ : oSH Ω = SHX)    (x1 : Int32) (x2 : Int32)  (σ : MS)  : GE X Ω 8 0 0 (emWI) 0 0 0 [(0, .ref 0), (1, .int x1), (2, .int x2)] [] σ (b_X11_look_0  x1 x2 σ) := by
  unfold b_X11_look_0
  refine g_aload_n hX (dc_X11_look 0 rfl) rfl 0 rfl ?_
  refine g_getF (q := 22) hX (dc_X11_look 1 rfl) fl_X11_41 (by decide) rfl (stS hΩ 0 rfl) rfl ?_
  refine g_getF (q := 23) hX (dc_X11_look 2 rfl) fl_X11_51 (by decide) rfl (stS hΩ 22 rfl) rfl ?_
  refine g_getI hX (dc_X11_look 3 rfl) fl_X11_220 (by decide) rfl (stS hΩ 23 rfl) ?_
  refine g_if_eq (tgt := 32) hX (dc_X11_look 4 rfl) (by decide) (fun h24 => ?_) (fun h24 => ?_)
  · exact g_sub [] rfl (c_X11_look_32 hX hO hΩ σ)
  · refine g_iload_n hX (dc_X11_look 5 rfl) rfl 1 rfl ?_
    refine g_if_lt (tgt := 32) hX (dc_X11_look 6 rfl) (by decide) (fun h25 => ?_) (fun h25 => ?_)
    · exact g_sub [] rfl (c_X11_look_32 hX hO hΩ σ)
    · refine g_iload_n hX (dc_X11_look 7 rfl) rfl 1 rfl ?_
      refine g_bipush (w := (60 : Int32)) hX (dc_X11_look 8 rfl) (by decide) ?_
      refine g_icmp_gt (tgt := 32) hX (dc_X11_look 9 rfl) (by decide) (fun h26 => ?_) (fun h26 => ?_)
      · exact g_sub [] rfl (c_X11_look_32 hX hO hΩ σ)
      · refine g_iload_n hX (dc_X11_look 10 rfl) rfl 2 rfl ?_
        refine g_if_lt (tgt := 32) hX (dc_X11_look 11 rfl) (by decide) (fun h27 => ?_) (fun h27 => ?_)
        · exact g_sub [] rfl (c_X11_look_32 hX hO hΩ σ)
        · refine g_iload_n hX (dc_X11_look 12 rfl) rfl 2 rfl ?_
          refine g_iconst (w := (1 : Int32)) hX (dc_X11_look 13 rfl) (by decide) ?_
          refine g_icmp_le (tgt := 34) hX (dc_X11_look 14 rfl) (by decide) (fun h28 => ?_) (fun h28 => ?_)
          · refine g_iconst (w := (0 : Int32)) hX (dc_X11_look 17 rfl) (by decide) ?_
            refine g_istore_n (L' := [(3, .int (0 : Int32)), (0, .ref 0), (1, .int x1), (2, .int x2)]) hX (dc_X11_look 18 rfl) rfl (by decide) rfl ?_
            refine g_iconst (w := (-1 : Int32)) hX (dc_X11_look 19 rfl) (by decide) ?_
            refine g_istore (L' := [(4, .int (-1 : Int32)), (3, .int (0 : Int32)), (0, .ref 0), (1, .int x1), (2, .int x2)]) hX (dc_X11_look 20 rfl) (by decide) rfl ?_
            exact g_sub [2, 3, 4, 1, 0] rfl (c_X11_look_39 hX hO hΩ FU (x1) (x2) ((0 : Int32)) ((-1 : Int32)) σ)
          · exact g_sub [] rfl (c_X11_look_32 hX hO hΩ σ)
def f_X11_look (x1 : Int32) (x2 : Int32) (σ : MS) : Option (Int32 × MS) := b_X11_look_0  x1 x2 σ
theorem con_X11_look {Ω : OM} (hO : OKO Ω) (hΩ : oSH Ω = SHX) (x1 : Int32) (x2 : Int32) (σ : MS)  : Con Ω yX11_look cX11_look 8 (some .int) rm_X11_look (emWI) [.ref 0, .int x1, .int x2] σ (f_X11_look x1 x2 σ) :=
  con_of hO (by decide +kernel) (Nat.le_of_ble_eq_true rfl) rfl (fun X hX _ => c_X11_look_0 hX hO hΩ   x1 x2 σ )
def it_X11_seed : List (Nat × Instr × Nat × Nat) := [(0, .iload_n 1, 1, 1), (1, .ifCond .ge 5, 3, 4), (4, .iconst (-1), 1, 5), (5, .ireturn, 1, 6), (6, .aload_n 0, 1, 7), (7, .getfield 41, 3, 10), (10, .getfield 210, 3, 13), (13, .istore_n 2, 1, 14), (14, .aload_n 0, 1, 15), (15, .getfield 41, 3, 18), (18, .iload_n 1, 1, 19), (19, .putfield 210, 3, 22), (22, .iload_n 2, 1, 23), (23, .ireturn, 1, 24)]
theorem id_X11_seed : ∀ q ∈ it_X11_seed, decode cX11_seed q.1 = .ok (q.2.1, q.2.2.1) ∧ q.1 + q.2.2.1 = q.2.2.2 := by decide +kernel
theorem dc_X11_seed {pc : Nat} {i : Instr} {n pc' : Nat} (j : Nat) (h : it_X11_seed[j]? = some (pc, i, n, pc')) : Dc cX11_seed pc i n pc' := dc_of id_X11_seed j h
abbrev rm_X11_seed : Room := { frames := 0, cells := 0, slots := 0, locals := 0 }
def b_X11_seed_0   (x1 : Int32)  (σ : MS) : Option (Int32 × MS) := (if 0 ≤ x1 then some ((sI σ 22 10), (wI σ 22 10 x1)) else some ((-1 : Int32), σ))
set_option maxHeartbeats 4000000 in
set_option maxRecDepth 20000 in
theorem c_X11_seed_0 {X : CX} {Ω : OM} (hX : CF X Ω RX11 cX11_seed 3 (some .int) rm_X11_seed) (hO : OKO Ω) (hΩ : oSH Ω = SHX)    (x1 : Int32)  (σ : MS)  : GE X Ω 3 0 0 (emWI) 0 0 0 [(0, .ref 0), (1, .int x1)] [] σ (b_X11_seed_0  x1 σ) := by
  unfold b_X11_seed_0
  refine g_iload_n hX (dc_X11_seed 0 rfl) rfl 1 rfl ?_
  refine g_if_ge (tgt := 6) hX (dc_X11_seed 1 rfl) (by decide) (fun h2 => ?_) (fun h2 => ?_)
  · refine g_aload_n hX (dc_X11_seed 4 rfl) rfl 0 rfl ?_
    refine g_getF (q := 22) hX (dc_X11_seed 5 rfl) fl_X11_41 (by decide) rfl (stS hΩ 0 rfl) rfl ?_
    refine g_getI hX (dc_X11_seed 6 rfl) fl_X11_210 (by decide) rfl (stS hΩ 22 rfl) ?_
    refine g_istore_n (L' := [(2, .int (sI σ 22 10)), (0, .ref 0), (1, .int x1)]) hX (dc_X11_seed 7 rfl) rfl (by decide) rfl ?_
    refine g_aload_n hX (dc_X11_seed 8 rfl) rfl 1 rfl ?_
    refine g_getF (q := 22) hX (dc_X11_seed 9 rfl) fl_X11_41 (by decide) rfl (stS hΩ 0 rfl) rfl ?_
    refine g_iload_n hX (dc_X11_seed 10 rfl) rfl 2 rfl ?_
    refine g_putI (raw := false) hX (dc_X11_seed 11 rfl) fl_X11_210 (by decide) ⟨rfl, rfl⟩ ⟨rfl, rfl⟩ (stS hΩ 22 rfl) ?_
    refine g_iload_n hX (dc_X11_seed 12 rfl) rfl 0 rfl ?_
    exact g_iret hX (dc_X11_seed 13 rfl) rfl rfl (Nat.le_refl _) (Nat.le_refl _)
  · refine g_iconst (w := (-1 : Int32)) hX (dc_X11_seed 2 rfl) (by decide) ?_
    exact g_iret hX (dc_X11_seed 3 rfl) rfl rfl (Nat.le_refl _) (Nat.le_refl _)
def f_X11_seed (x1 : Int32) (σ : MS) : Option (Int32 × MS) := b_X11_seed_0  x1 σ
theorem con_X11_seed {Ω : OM} (hO : OKO Ω) (hΩ : oSH Ω = SHX) (x1 : Int32) (σ : MS)  : Con Ω yX11_seed cX11_seed 3 (some .int) rm_X11_seed (emWI) [.ref 0, .int x1] σ (f_X11_seed x1 σ) :=
  con_of hO (by decide +kernel) (Nat.le_of_ble_eq_true rfl) rfl (fun X hX _ => c_X11_seed_0 hX hO hΩ   x1 σ )
def it_X11_draw : List (Nat × Instr × Nat × Nat) := [(0, .aload_n 0, 1, 1), (1, .aload_n 0, 1, 2), (2, .getfield 348, 3, 5), (5, .i2l, 1, 6), (6, .ldc2_w 360, 3, 9), (9, .lmul, 1, 10), (10, .ldc2_w 362, 3, 13), (13, .ladd, 1, 14), (14, .ldc2_w 364, 3, 17), (17, .land, 1, 18), (18, .l2i, 1, 19), (19, .putfield 348, 3, 22), (22, .aload_n 0, 1, 23), (23, .getfield 348, 3, 26), (26, .ldc_w 366, 3, 29), (29, .idiv, 1, 30), (30, .ireturn, 1, 31)]
theorem id_X11_draw : ∀ q ∈ it_X11_draw, decode cX11_draw q.1 = .ok (q.2.1, q.2.2.1) ∧ q.1 + q.2.2.1 = q.2.2.2 := by decide +kernel
theorem dc_X11_draw {pc : Nat} {i : Instr} {n pc' : Nat} (j : Nat) (h : it_X11_draw[j]? = some (pc, i, n, pc')) : Dc cX11_draw pc i n pc' := dc_of id_X11_draw j h
abbrev rm_X11_draw : Room := { frames := 0, cells := 0, slots := 0, locals := 0 }
def b_X11_draw_0     (σ : MS) : Option (Int32 × MS) := some (((sI (wI σ 0 12 ((((((sI σ 0 12)).toInt64 * (1103515245 : Int64)) + (12345 : Int64)) &&& (2147483647 : Int64))).toInt32) 0 12) / (65536 : Int32)), (wI σ 0 12 ((((((sI σ 0 12)).toInt64 * (1103515245 : Int64)) + (12345 : Int64)) &&& (2147483647 : Int64))).toInt32))
set_option maxHeartbeats 4000000 in
set_option maxRecDepth 20000 in
theorem c_X11_draw_0 {X : CX} {Ω : OM} (hX : CF X Ω RX11 cX11_draw 1 (some .int) rm_X11_draw) (hO : OKO Ω) (hΩ : oSH Ω = SHX)      (σ : MS)  : GE X Ω 1 0 0 (emWI) 0 0 0 [(0, .ref 0)] [] σ (b_X11_draw_0  σ) := by
  unfold b_X11_draw_0
  refine g_aload_n hX (dc_X11_draw 0 rfl) rfl 0 rfl ?_
  refine g_aload_n hX (dc_X11_draw 1 rfl) rfl 0 rfl ?_
  refine g_getI hX (dc_X11_draw 2 rfl) fl_X11_348 (by decide) rfl (stS hΩ 0 rfl) ?_
  refine g_i2l hX (dc_X11_draw 3 rfl) ?_
  refine g_ldc2 hX (dc_X11_draw 4 rfl) wk_X11_360 ?_
  refine g_lmul hX (dc_X11_draw 5 rfl) ?_
  refine g_ldc2 hX (dc_X11_draw 6 rfl) wk_X11_362 ?_
  refine g_ladd hX (dc_X11_draw 7 rfl) ?_
  refine g_ldc2 hX (dc_X11_draw 8 rfl) wk_X11_364 ?_
  refine g_land hX (dc_X11_draw 9 rfl) ?_
  refine g_l2i hX (dc_X11_draw 10 rfl) ?_
  refine g_putI (raw := false) hX (dc_X11_draw 11 rfl) fl_X11_348 (by decide) ⟨rfl, rfl⟩ ⟨rfl, rfl⟩ (stS hΩ 0 rfl) ?_
  refine g_aload_n hX (dc_X11_draw 12 rfl) rfl 0 rfl ?_
  refine g_getI hX (dc_X11_draw 13 rfl) fl_X11_348 (by decide) rfl (stS hΩ 0 rfl) ?_
  refine g_ldcw hX (dc_X11_draw 14 rfl) wk_X11_366 ?_
  refine g_idiv hX (dc_X11_draw 15 rfl) (by decide) ?_
  exact g_iret hX (dc_X11_draw 16 rfl) rfl rfl (Nat.le_refl _) (Nat.le_refl _)
def f_X11_draw  (σ : MS) : Option (Int32 × MS) := b_X11_draw_0   σ
theorem con_X11_draw {Ω : OM} (hO : OKO Ω) (hΩ : oSH Ω = SHX)  (σ : MS)  : Con Ω yX11_draw cX11_draw 1 (some .int) rm_X11_draw (emWI) [.ref 0] σ (f_X11_draw  σ) :=
  con_of hO (by decide +kernel) (Nat.le_of_ble_eq_true rfl) rfl (fun X hX _ => c_X11_draw_0 hX hO hΩ    σ )
def it_X11_dropByDraw : List (Nat × Instr × Nat × Nat) := [(0, .aload_n 0, 1, 1), (1, .invokevirtual 354, 3, 4), (4, .bipush 100, 2, 6), (6, .irem, 1, 7), (7, .iload_n 1, 1, 8), (8, .if_icmp .lt 5, 3, 11), (11, .iconst 0, 1, 12), (12, .ireturn, 1, 13), (13, .aload_n 0, 1, 14), (14, .getfield 65, 3, 17), (17, .invokevirtual 195, 3, 20), (20, .invokestatic 239, 3, 23), (23, .istore_n 2, 1, 24), (24, .iload_n 2, 1, 25), (25, .ifCond .ne 5, 3, 28), (28, .iconst 0, 1, 29), (29, .ireturn, 1, 30), (30, .aload_n 0, 1, 31), (31, .getfield 65, 3, 34), (34, .aload_n 0, 1, 35), (35, .invokevirtual 354, 3, 38), (38, .iload_n 2, 1, 39), (39, .irem, 1, 40), (40, .invokevirtual 357, 3, 43), (43, .iconst 1, 1, 44), (44, .ireturn, 1, 45)]
theorem id_X11_dropByDraw : ∀ q ∈ it_X11_dropByDraw, decode cX11_dropByDraw q.1 = .ok (q.2.1, q.2.2.1) ∧ q.1 + q.2.2.1 = q.2.2.2 := by decide +kernel
theorem dc_X11_dropByDraw {pc : Nat} {i : Instr} {n pc' : Nat} (j : Nat) (h : it_X11_dropByDraw[j]? = some (pc, i, n, pc')) : Dc cX11_dropByDraw pc i n pc' := dc_of id_X11_dropByDraw j h
abbrev rm_X11_dropByDraw : Room := { frames := 2, cells := 0, slots := 0, locals := 44 }
def b_X11_dropByDraw_0   (x1 : Int32)  (σ : MS) : Option (Int32 × MS) := (f_X11_draw σ).bind (fun r9 => (if (r9.1 - r9.1 / (100 : Int32) * (100 : Int32)) < x1 then (f_X8_worksThatGo 46 r9.2).bind (fun r11 => (f_J6_bitCount_0f7a4 r11).bind (fun r12 => (if r12 = 0 then some ((0 : Int32), r9.2) else (f_X11_draw r9.2).bind (fun r14 => chk (¬ r12 = 0) ((f_X8_layGoing 46 (r14.1 - r14.1 / r12 * r12) r14.2).bind (fun r16 => some ((1 : Int32), r16))))))) else some ((0 : Int32), r9.2)))
set_option maxHeartbeats 4000000 in
set_option maxRecDepth 20000 in
theorem c_X11_dropByDraw_0 {X : CX} {Ω : OM} (hX : CF X Ω RX11 cX11_dropByDraw 3 (some .int) rm_X11_dropByDraw) (hO : OKO Ω) (hΩ : oSH Ω = SHX)    (x1 : Int32)  (σ : MS)  : GE X Ω 3 0 0 (emWI) 0 0 0 [(0, .ref 0), (1, .int x1)] [] σ (b_X11_dropByDraw_0  x1 σ) := by
  unfold b_X11_dropByDraw_0
  refine g_aload_n hX (dc_X11_dropByDraw 0 rfl) rfl 0 rfl ?_
  refine gV_WI (As := []) (st := []) hX (dc_X11_dropByDraw 1 rfl) ml_X11_354 (con_X11_draw hO hΩ σ) (stS hΩ 0 rfl) rfl rfl ⟨by decide, by decide⟩ ⟨rfl, rfl⟩ ⟨Nat.zero_le _, Nat.zero_le _⟩ (Nat.le_of_ble_eq_true rfl) (fun r9 _ => ?_)
  refine g_bipush (w := (100 : Int32)) hX (dc_X11_dropByDraw 2 rfl) (by decide) ?_
  refine g_irem hX (dc_X11_dropByDraw 3 rfl) (by decide) ?_
  refine g_iload_n hX (dc_X11_dropByDraw 4 rfl) rfl 1 rfl ?_
  refine g_icmp_lt (tgt := 13) hX (dc_X11_dropByDraw 5 rfl) (by decide) (fun h10 => ?_) (fun h10 => ?_)
  · refine g_aload_n hX (dc_X11_dropByDraw 8 rfl) rfl 0 rfl ?_
    refine g_getF (q := 46) hX (dc_X11_dropByDraw 9 rfl) fl_X11_65 (by decide) rfl (stS hΩ 0 rfl) rfl ?_
    refine gV_PI (As := []) (st := []) hX (dc_X11_dropByDraw 10 rfl) ml_X11_195 (con_X8_worksThatGo hO hΩ 46 r9.2 (stR hΩ 46 (by decide))) (stS hΩ 46 rfl) rfl rfl ⟨by decide, by decide⟩ ⟨rfl, rfl⟩ ⟨Nat.zero_le _, Nat.zero_le _⟩ (Nat.le_of_ble_eq_true rfl) (fun r11 _ => ?_)
    refine gS_PI (As := [.int r11]) (st := []) hX (dc_X11_dropByDraw 11 rfl) ml_X11_239 (con_J6_bitCount_0f7a4 hO hΩ r11 r9.2) rfl rfl ⟨by decide, by decide⟩ ⟨rfl, rfl⟩ ⟨Nat.zero_le _, Nat.zero_le _⟩ (Nat.le_of_ble_eq_true rfl) (fun r12 _ => ?_)
    refine g_istore_n (L' := [(2, .int r12), (0, .ref 0), (1, .int x1)]) hX (dc_X11_dropByDraw 12 rfl) rfl (by decide) rfl ?_
    refine g_iload_n hX (dc_X11_dropByDraw 13 rfl) rfl 0 rfl ?_
    refine g_if_ne (tgt := 30) hX (dc_X11_dropByDraw 14 rfl) (by decide) (fun h13 => ?_) (fun h13 => ?_)
    · refine g_iconst (w := (0 : Int32)) hX (dc_X11_dropByDraw 15 rfl) (by decide) ?_
      exact g_iret hX (dc_X11_dropByDraw 16 rfl) rfl rfl (Nat.le_refl _) (Nat.le_refl _)
    · refine g_aload_n hX (dc_X11_dropByDraw 17 rfl) rfl 1 rfl ?_
      refine g_getF (q := 46) hX (dc_X11_dropByDraw 18 rfl) fl_X11_65 (by decide) rfl (stS hΩ 0 rfl) rfl ?_
      refine g_aload_n hX (dc_X11_dropByDraw 19 rfl) rfl 1 rfl ?_
      refine gV_WI (As := []) (st := [.ref 46]) hX (dc_X11_dropByDraw 20 rfl) ml_X11_354 (con_X11_draw hO hΩ r9.2) (stS hΩ 0 rfl) rfl rfl ⟨by decide, by decide⟩ ⟨rfl, rfl⟩ ⟨Nat.zero_le _, Nat.zero_le _⟩ (Nat.le_of_ble_eq_true rfl) (fun r14 _ => ?_)
      refine g_iload_n hX (dc_X11_dropByDraw 21 rfl) rfl 0 rfl ?_
      refine g_chk (fun hc15 => ?_)
      refine g_irem hX (dc_X11_dropByDraw 22 rfl) hc15 ?_
      refine gV_WV (As := [.int (r14.1 - r14.1 / r12 * r12)]) (st := []) hX (dc_X11_dropByDraw 23 rfl) ml_X11_357 (con_X8_layGoing hO hΩ 46 (r14.1 - r14.1 / r12 * r12) r14.2 (stR hΩ 46 (by decide))) (stS hΩ 46 rfl) rfl rfl ⟨by decide, by decide⟩ ⟨rfl, rfl⟩ ⟨Nat.zero_le _, Nat.zero_le _⟩ (Nat.le_of_ble_eq_true rfl) (fun r16 _ => ?_)
      refine g_iconst (w := (1 : Int32)) hX (dc_X11_dropByDraw 24 rfl) (by decide) ?_
      exact g_iret hX (dc_X11_dropByDraw 25 rfl) rfl rfl (Nat.le_refl _) (Nat.le_refl _)
  · refine g_iconst (w := (0 : Int32)) hX (dc_X11_dropByDraw 6 rfl) (by decide) ?_
    exact g_iret hX (dc_X11_dropByDraw 7 rfl) rfl rfl (Nat.le_refl _) (Nat.le_refl _)
def f_X11_dropByDraw (x1 : Int32) (σ : MS) : Option (Int32 × MS) := b_X11_dropByDraw_0  x1 σ
theorem con_X11_dropByDraw {Ω : OM} (hO : OKO Ω) (hΩ : oSH Ω = SHX) (x1 : Int32) (σ : MS)  : Con Ω yX11_dropByDraw cX11_dropByDraw 3 (some .int) rm_X11_dropByDraw (emWI) [.ref 0, .int x1] σ (f_X11_dropByDraw x1 σ) :=
  con_of hO (by decide +kernel) (Nat.le_of_ble_eq_true rfl) rfl (fun X hX _ => c_X11_dropByDraw_0 hX hO hΩ   x1 σ )
def it_X11_nights : List (Nat × Instr × Nat × Nat) := [(0, .aload_n 0, 1, 1), (1, .getfield 41, 3, 4), (4, .getfield 51, 3, 7), (7, .getfield 220, 3, 10), (10, .ifCond .eq 25, 3, 13), (13, .iload_n 1, 1, 14), (14, .iconst 1, 1, 15), (15, .if_icmp .lt 20, 3, 18), (18, .iload_n 1, 1, 19), (19, .bipush 10, 2, 21), (21, .if_icmp .gt 14, 3, 24), (24, .iload_n 2, 1, 25), (25, .iconst 1, 1, 26), (26, .if_icmp .lt 9, 3, 29), (29, .iload_n 2, 1, 30), (30, .bipush 60, 2, 32), (32, .if_icmp .le 5, 3, 35), (35, .iconst (-1), 1, 36), (36, .ireturn, 1, 37), (37, .iload_n 3, 1, 38), (38, .ifCond .lt 20, 3, 41), (41, .iload_n 3, 1, 42), (42, .bipush 100, 2, 44), (44, .if_icmp .gt 14, 3, 47), (47, .iload 4, 2, 49), (49, .ifCond .lt 9, 3, 52), (52, .iload 4, 2, 54), (54, .iconst 1, 1, 55), (55, .if_icmp .le 5, 3, 58), (58, .iconst (-1), 1, 59), (59, .ireturn, 1, 60), (60, .aload_n 0, 1, 61), (61, .aload_n 0, 1, 62), (62, .getfield 41, 3, 65), (65, .getfield 210, 3, 68), (68, .putfield 348, 3, 71), (71, .iconst 0, 1, 72), (72, .istore 5, 2, 74), (74, .iconst 0, 1, 75), (75, .istore 6, 2, 77), (77, .iconst 0, 1, 78), (78, .istore 7, 2, 80), (80, .iload 7, 2, 82), (82, .iload_n 1, 1, 83), (83, .if_icmp .ge 73, 3, 86), (86, .aload_n 0, 1, 87), (87, .iconst (-1), 1, 88), (88, .invokevirtual 264, 3, 91), (91, .iconst 0, 1, 92), (92, .istore 8, 2, 94), (94, .iload 8, 2, 96), (96, .iload_n 2, 1, 97), (97, .if_icmp .ge 38, 3, 100), (100, .iload 5, 2, 102), (102, .aload_n 0, 1, 103), (103, .iload_n 3, 1, 104), (104, .invokevirtual 351, 3, 107), (107, .iadd, 1, 108), (108, .istore 5, 2, 110), (110, .iload 5, 2, 112), (112, .aload_n 0, 1, 113), (113, .getfield 58, 3, 116), (116, .aload_n 0, 1, 117), (117, .getfield 65, 3, 120), (120, .invokevirtual 235, 3, 123), (123, .invokestatic 239, 3, 126), (126, .iadd, 1, 127), (127, .istore 5, 2, 129), (129, .iinc 8 1, 3, 132), (132, .goto (-38), 3, 135), (135, .iload 6, 2, 137), (137, .aload_n 0, 1, 138), (138, .getfield 65, 3, 141), (141, .invokevirtual 195, 3, 144), (144, .invokestatic 239, 3, 147), (147, .iadd, 1, 148), (148, .istore 6, 2, 150), (150, .iinc 7 1, 3, 153), (153, .goto (-73), 3, 156), (156, .iload 4, 2, 158), (158, .ifCond .ne 8, 3, 161), (161, .iload 5, 2, 163), (163, .goto 5, 3, 166), (166, .iload 6, 2, 168), (168, .ireturn, 1, 169)]
theorem id_X11_nights : ∀ q ∈ it_X11_nights, decode cX11_nights q.1 = .ok (q.2.1, q.2.2.1) ∧ q.1 + q.2.2.1 = q.2.2.2 := by decide +kernel
theorem dc_X11_nights {pc : Nat} {i : Instr} {n pc' : Nat} (j : Nat) (h : it_X11_nights[j]? = some (pc, i, n, pc')) : Dc cX11_nights pc i n pc' := dc_of id_X11_nights j h
abbrev rm_X11_nights : Room := { frames := 6, cells := 0, slots := 0, locals := 148 }
def b_X11_nights_168    (s0 : Int32) (σ : MS) : Option (Int32 × MS) := some (s0, σ)
set_option maxHeartbeats 4000000 in
set_option maxRecDepth 20000 in
theorem c_X11_nights_168 {X : CX} {Ω : OM} (hX : CF X Ω RX11 cX11_nights 9 (some .int) rm_X11_nights) (hO : OKO Ω) (hΩ : oSH Ω = SHX)     (s0 : Int32) (σ : MS)  : GE X Ω 9 0 0 (emWI) 0 0 168 [] [.int s0] σ (b_X11_nights_168  s0 σ) := by
  unfold b_X11_nights_168
  exact g_iret hX (dc_X11_nights 84 rfl) rfl rfl (Nat.le_refl _) (Nat.le_refl _)
def b_X11_nights_94  (k80 : Int32 → Int32 → Int32 → Int32 → Int32 → Int32 → Int32 → MS → Option (Int32 × MS)) : Nat → Int32 → Int32 → Int32 → Int32 → Int32 → Int32 → Int32 → Int32 → MS → Option (Int32 × MS)
  | 0, _, _, _, _, _, _, _, _, _ => none
  | n + 1, y1, y2, y3, y4, y5, y6, y7, y8, σ => (if y2 ≤ y8 then (f_X8_worksThatGo 46 σ).bind (fun r20 => (f_J6_bitCount_0f7a4 r20).bind (fun r21 => (k80 (y1) (y2) (y3) (y4) (y5) ((y6 + r21)) ((y7 + (1 : Int32))) σ))) else (f_X11_dropByDraw y3 σ).bind (fun r22 => (f_X1_passHour 46 r22.2).bind (fun r23 => (f_J6_bitCount_0f7a4 r23.1).bind (fun r24 => ((b_X11_nights_94  k80 n) (y1) (y2) (y3) (y4) (((y5 + r22.1) + r24)) (y6) (y7) ((y8 + (1 : Int32))) r23.2)))))
set_option maxHeartbeats 4000000 in
set_option maxRecDepth 20000 in
theorem c_X11_nights_94 {X : CX} {Ω : OM} (hX : CF X Ω RX11 cX11_nights 9 (some .int) rm_X11_nights) (hO : OKO Ω) (hΩ : oSH Ω = SHX)   (k80 : Int32 → Int32 → Int32 → Int32 → Int32 → Int32 → Int32 → MS → Option (Int32 × MS)) (hk80 : ∀ (y1 : Int32) (y2 : Int32) (y3 : Int32) (y4 : Int32) (y5 : Int32) (y6 : Int32) (y7 : Int32) (σ : MS) , GE X Ω 9 0 0 (emWI) 0 0 80 [(0, .ref 0), (1, .int y1), (2, .int y2), (3, .int y3), (4, .int y4), (5, .int y5), (6, .int y6), (7, .int y7)] [] σ (k80 y1 y2 y3 y4 y5 y6 y7 σ)) : ∀ (n : Nat) (y1 : Int32) (y2 : Int32) (y3 : Int32) (y4 : Int32) (y5 : Int32) (y6 : Int32) (y7 : Int32) (y8 : Int32) (σ : MS) , GE X Ω 9 0 0 (emWI) 0 0 94 [(0, .ref 0), (1, .int y1), (2, .int y2), (3, .int y3), (4, .int y4), (5, .int y5), (6, .int y6), (7, .int y7), (8, .int y8)] [] σ (b_X11_nights_94  k80 n y1 y2 y3 y4 y5 y6 y7 y8 σ)
  | 0, _, _, _, _, _, _, _, _, _ => g_none
  | n + 1, y1, y2, y3, y4, y5, y6, y7, y8, σ => by
    have hk94 := c_X11_nights_94 hX hO hΩ  k80 hk80 n
    unfold b_X11_nights_94
    refine g_iload hX (dc_X11_nights 50 rfl) 8 rfl ?_
    refine g_iload_n hX (dc_X11_nights 51 rfl) rfl 2 rfl ?_
    refine g_icmp_ge (tgt := 135) hX (dc_X11_nights 52 rfl) (by decide) (fun h19 => ?_) (fun h19 => ?_)
    · refine g_iload hX (dc_X11_nights 70 rfl) 6 rfl ?_
      refine g_aload_n hX (dc_X11_nights 71 rfl) rfl 0 rfl ?_
      refine g_getF (q := 46) hX (dc_X11_nights 72 rfl) fl_X11_65 (by decide) rfl (stS hΩ 0 rfl) rfl ?_
      refine gV_PI (As := []) (st := [.int y6]) hX (dc_X11_nights 73 rfl) ml_X11_195 (con_X8_worksThatGo hO hΩ 46 σ (stR hΩ 46 (by decide))) (stS hΩ 46 rfl) rfl rfl ⟨by decide, by decide⟩ ⟨rfl, rfl⟩ ⟨Nat.zero_le _, Nat.zero_le _⟩ (Nat.le_of_ble_eq_true rfl) (fun r20 _ => ?_)
      refine gS_PI (As := [.int r20]) (st := [.int y6]) hX (dc_X11_nights 74 rfl) ml_X11_239 (con_J6_bitCount_0f7a4 hO hΩ r20 σ) rfl rfl ⟨by decide, by decide⟩ ⟨rfl, rfl⟩ ⟨Nat.zero_le _, Nat.zero_le _⟩ (Nat.le_of_ble_eq_true rfl) (fun r21 _ => ?_)
      refine g_iadd hX (dc_X11_nights 75 rfl) ?_
      refine g_istore (L' := [(6, .int (y6 + r21)), (0, .ref 0), (1, .int y1), (2, .int y2), (3, .int y3), (4, .int y4), (5, .int y5), (7, .int y7), (8, .int y8)]) hX (dc_X11_nights 76 rfl) (by decide) rfl ?_
      refine g_iinc (w := (y7 + (1 : Int32))) (L' := [(7, .int (y7 + (1 : Int32))), (6, .int (y6 + r21)), (0, .ref 0), (1, .int y1), (2, .int y2), (3, .int y3), (4, .int y4), (5, .int y5), (8, .int y8)]) hX (dc_X11_nights 77 rfl) 7 rfl rfl (by decide) rfl ?_
      refine g_goto (tgt := 80) hX (dc_X11_nights 78 rfl) (by decide) ?_
      exact g_sub [2, 3, 4, 5, 6, 7, 1, 0] rfl (hk80 (y1) (y2) (y3) (y4) (y5) ((y6 + r21)) ((y7 + (1 : Int32))) σ )
    · refine g_iload hX (dc_X11_nights 53 rfl) 5 rfl ?_
      refine g_aload_n hX (dc_X11_nights 54 rfl) rfl 0 rfl ?_
      refine g_iload_n hX (dc_X11_nights 55 rfl) rfl 3 rfl ?_
      refine gV_WI (As := [.int y3]) (st := [.int y5]) hX (dc_X11_nights 56 rfl) ml_X11_351 (con_X11_dropByDraw hO hΩ y3 σ) (stS hΩ 0 rfl) rfl rfl ⟨by decide, by decide⟩ ⟨rfl, rfl⟩ ⟨Nat.zero_le _, Nat.zero_le _⟩ (Nat.le_of_ble_eq_true rfl) (fun r22 _ => ?_)
      refine g_iadd hX (dc_X11_nights 57 rfl) ?_
      refine g_istore (L' := [(5, .int (y5 + r22.1)), (0, .ref 0), (1, .int y1), (2, .int y2), (3, .int y3), (4, .int y4), (6, .int y6), (7, .int y7), (8, .int y8)]) hX (dc_X11_nights 58 rfl) (by decide) rfl ?_
      refine g_iload hX (dc_X11_nights 59 rfl) 0 rfl ?_
      refine g_aload_n hX (dc_X11_nights 60 rfl) rfl 1 rfl ?_
      refine g_getF (q := 44) hX (dc_X11_nights 61 rfl) fl_X11_58 (by decide) rfl (stS hΩ 0 rfl) rfl ?_
      refine g_aload_n hX (dc_X11_nights 62 rfl) rfl 1 rfl ?_
      refine g_getF (q := 46) hX (dc_X11_nights 63 rfl) fl_X11_65 (by decide) rfl (stS hΩ 0 rfl) rfl ?_
      refine gV_WI (As := [.ref 46]) (st := [.int (y5 + r22.1)]) hX (dc_X11_nights 64 rfl) ml_X11_235 (con_X1_passHour hO hΩ 46 r22.2 (stR hΩ 46 (by decide))) (stS hΩ 44 rfl) rfl rfl ⟨by decide, by decide⟩ ⟨rfl, rfl⟩ ⟨Nat.zero_le _, Nat.zero_le _⟩ (Nat.le_of_ble_eq_true rfl) (fun r23 _ => ?_)
      refine gS_PI (As := [.int r23.1]) (st := [.int (y5 + r22.1)]) hX (dc_X11_nights 65 rfl) ml_X11_239 (con_J6_bitCount_0f7a4 hO hΩ r23.1 r23.2) rfl rfl ⟨by decide, by decide⟩ ⟨rfl, rfl⟩ ⟨Nat.zero_le _, Nat.zero_le _⟩ (Nat.le_of_ble_eq_true rfl) (fun r24 _ => ?_)
      refine g_iadd hX (dc_X11_nights 66 rfl) ?_
      refine g_istore (L' := [(5, .int ((y5 + r22.1) + r24)), (0, .ref 0), (1, .int y1), (2, .int y2), (3, .int y3), (4, .int y4), (6, .int y6), (7, .int y7), (8, .int y8)]) hX (dc_X11_nights 67 rfl) (by decide) rfl ?_
      refine g_iinc (w := (y8 + (1 : Int32))) (L' := [(8, .int (y8 + (1 : Int32))), (5, .int ((y5 + r22.1) + r24)), (0, .ref 0), (1, .int y1), (2, .int y2), (3, .int y3), (4, .int y4), (6, .int y6), (7, .int y7)]) hX (dc_X11_nights 68 rfl) 8 rfl rfl (by decide) rfl ?_
      refine g_goto (tgt := 94) hX (dc_X11_nights 69 rfl) (by decide) ?_
      exact g_sub [2, 3, 4, 5, 6, 1, 7, 8, 0] rfl (hk94 (y1) (y2) (y3) (y4) (((y5 + r22.1) + r24)) (y6) (y7) ((y8 + (1 : Int32))) r23.2 )
def b_X11_nights_80   : Nat → Int32 → Int32 → Int32 → Int32 → Int32 → Int32 → Int32 → MS → Option (Int32 × MS)
  | 0, _, _, _, _, _, _, _, _ => none
  | n + 1, y1, y2, y3, y4, y5, y6, y7, σ => (if y1 ≤ y7 then (if y4 = 0 then (b_X11_nights_168 (y5) σ) else (b_X11_nights_168 (y6) σ)) else (f_X11_startTrial (-1 : Int32) σ).bind (fun r27 => (b_X11_nights_94 (b_X11_nights_80  n) FU (y1) (y2) (y3) (y4) (y5) (y6) (y7) ((0 : Int32)) r27)))
set_option maxHeartbeats 4000000 in
set_option maxRecDepth 20000 in
theorem c_X11_nights_80 {X : CX} {Ω : OM} (hX : CF X Ω RX11 cX11_nights 9 (some .int) rm_X11_nights) (hO : OKO Ω) (hΩ : oSH Ω = SHX)    : ∀ (n : Nat) (y1 : Int32) (y2 : Int32) (y3 : Int32) (y4 : Int32) (y5 : Int32) (y6 : Int32) (y7 : Int32) (σ : MS) , GE X Ω 9 0 0 (emWI) 0 0 80 [(0, .ref 0), (1, .int y1), (2, .int y2), (3, .int y3), (4, .int y4), (5, .int y5), (6, .int y6), (7, .int y7)] [] σ (b_X11_nights_80  n y1 y2 y3 y4 y5 y6 y7 σ)
  | 0, _, _, _, _, _, _, _, _ => g_none
  | n + 1, y1, y2, y3, y4, y5, y6, y7, σ => by
    have hk80 := c_X11_nights_80 hX hO hΩ  n
    unfold b_X11_nights_80
    refine g_iload hX (dc_X11_nights 42 rfl) 7 rfl ?_
    refine g_iload_n hX (dc_X11_nights 43 rfl) rfl 1 rfl ?_
    refine g_icmp_ge (tgt := 156) hX (dc_X11_nights 44 rfl) (by decide) (fun h25 => ?_) (fun h25 => ?_)
    · refine g_iload hX (dc_X11_nights 79 rfl) 4 rfl ?_
      refine g_if_ne (tgt := 166) hX (dc_X11_nights 80 rfl) (by decide) (fun h26 => ?_) (fun h26 => ?_)
      · refine g_iload hX (dc_X11_nights 81 rfl) 5 rfl ?_
        refine g_goto (tgt := 168) hX (dc_X11_nights 82 rfl) (by decide) ?_
        exact g_sub [] rfl (c_X11_nights_168 hX hO hΩ (y5) σ)
      · refine g_iload hX (dc_X11_nights 83 rfl) 6 rfl ?_
        exact g_sub [] rfl (c_X11_nights_168 hX hO hΩ (y6) σ)
    · refine g_aload_n hX (dc_X11_nights 45 rfl) rfl 0 rfl ?_
      refine g_iconst (w := (-1 : Int32)) hX (dc_X11_nights 46 rfl) (by decide) ?_
      refine gV_WV (As := [.int (-1 : Int32)]) (st := []) hX (dc_X11_nights 47 rfl) ml_X11_264 (con_X11_startTrial hO hΩ (-1 : Int32) σ) (stS hΩ 0 rfl) rfl rfl ⟨by decide, by decide⟩ ⟨rfl, rfl⟩ ⟨Nat.zero_le _, Nat.zero_le _⟩ (Nat.le_of_ble_eq_true rfl) (fun r27 _ => ?_)
      refine g_iconst (w := (0 : Int32)) hX (dc_X11_nights 48 rfl) (by decide) ?_
      refine g_istore (L' := [(8, .int (0 : Int32)), (0, .ref 0), (1, .int y1), (2, .int y2), (3, .int y3), (4, .int y4), (5, .int y5), (6, .int y6), (7, .int y7)]) hX (dc_X11_nights 49 rfl) (by decide) rfl ?_
      exact g_sub [1, 2, 3, 4, 5, 6, 7, 8, 0] rfl (c_X11_nights_94 hX hO hΩ _ hk80 FU (y1) (y2) (y3) (y4) (y5) (y6) (y7) ((0 : Int32)) r27)
def b_X11_nights_58     (σ : MS) : Option (Int32 × MS) := some ((-1 : Int32), σ)
set_option maxHeartbeats 4000000 in
set_option maxRecDepth 20000 in
theorem c_X11_nights_58 {X : CX} {Ω : OM} (hX : CF X Ω RX11 cX11_nights 9 (some .int) rm_X11_nights) (hO : OKO Ω) (hΩ : oSH Ω = SHX)      (σ : MS)  : GE X Ω 9 0 0 (emWI) 0 0 58 [] [] σ (b_X11_nights_58  σ) := by
  unfold b_X11_nights_58
  refine g_iconst (w := (-1 : Int32)) hX (dc_X11_nights 29 rfl) (by decide) ?_
  exact g_iret hX (dc_X11_nights 30 rfl) rfl rfl (Nat.le_refl _) (Nat.le_refl _)
def b_X11_nights_35     (σ : MS) : Option (Int32 × MS) := some ((-1 : Int32), σ)
set_option maxHeartbeats 4000000 in
set_option maxRecDepth 20000 in
theorem c_X11_nights_35 {X : CX} {Ω : OM} (hX : CF X Ω RX11 cX11_nights 9 (some .int) rm_X11_nights) (hO : OKO Ω) (hΩ : oSH Ω = SHX)      (σ : MS)  : GE X Ω 9 0 0 (emWI) 0 0 35 [] [] σ (b_X11_nights_35  σ) := by
  unfold b_X11_nights_35
  refine g_iconst (w := (-1 : Int32)) hX (dc_X11_nights 17 rfl) (by decide) ?_
  exact g_iret hX (dc_X11_nights 18 rfl) rfl rfl (Nat.le_refl _) (Nat.le_refl _)
def b_X11_nights_0   (x1 : Int32) (x2 : Int32) (x3 : Int32) (x4 : Int32)  (σ : MS) : Option (Int32 × MS) := (if (sI σ 23 0) = 0 then (b_X11_nights_35 σ) else (if x1 < (1 : Int32) then (b_X11_nights_35 σ) else (if (10 : Int32) < x1 then (b_X11_nights_35 σ) else (if x2 < (1 : Int32) then (b_X11_nights_35 σ) else (if x2 ≤ (60 : Int32) then (if x3 < 0 then (b_X11_nights_58 σ) else (if (100 : Int32) < x3 then (b_X11_nights_58 σ) else (if x4 < 0 then (b_X11_nights_58 σ) else (if x4 ≤ (1 : Int32) then (b_X11_nights_80 FU (x1) (x2) (x3) (x4) ((0 : Int32)) ((0 : Int32)) ((0 : Int32)) (wI σ 0 12 (sI σ 22 10))) else (b_X11_nights_58 σ))))) else (b_X11_nights_35 σ))))))
set_option maxHeartbeats 4000000 in
set_option maxRecDepth 20000 in
theorem c_X11_nights_0 {X : CX} {Ω : OM} (hX : CF X Ω RX11 cX11_nights 9 (some .int) rm_X11_nights) (hO : OKO Ω) (hΩ : oSH Ω = SHX)    (x1 : Int32) (x2 : Int32) (x3 : Int32) (x4 : Int32)  (σ : MS)  : GE X Ω 9 0 0 (emWI) 0 0 0 [(0, .ref 0), (1, .int x1), (2, .int x2), (3, .int x3), (4, .int x4)] [] σ (b_X11_nights_0  x1 x2 x3 x4 σ) := by
  unfold b_X11_nights_0
  refine g_aload_n hX (dc_X11_nights 0 rfl) rfl 0 rfl ?_
  refine g_getF (q := 22) hX (dc_X11_nights 1 rfl) fl_X11_41 (by decide) rfl (stS hΩ 0 rfl) rfl ?_
  refine g_getF (q := 23) hX (dc_X11_nights 2 rfl) fl_X11_51 (by decide) rfl (stS hΩ 22 rfl) rfl ?_
  refine g_getI hX (dc_X11_nights 3 rfl) fl_X11_220 (by decide) rfl (stS hΩ 23 rfl) ?_
  refine g_if_eq (tgt := 35) hX (dc_X11_nights 4 rfl) (by decide) (fun h28 => ?_) (fun h28 => ?_)
  · exact g_sub [] rfl (c_X11_nights_35 hX hO hΩ σ)
  · refine g_iload_n hX (dc_X11_nights 5 rfl) rfl 1 rfl ?_
    refine g_iconst (w := (1 : Int32)) hX (dc_X11_nights 6 rfl) (by decide) ?_
    refine g_icmp_lt (tgt := 35) hX (dc_X11_nights 7 rfl) (by decide) (fun h29 => ?_) (fun h29 => ?_)
    · exact g_sub [] rfl (c_X11_nights_35 hX hO hΩ σ)
    · refine g_iload_n hX (dc_X11_nights 8 rfl) rfl 1 rfl ?_
      refine g_bipush (w := (10 : Int32)) hX (dc_X11_nights 9 rfl) (by decide) ?_
      refine g_icmp_gt (tgt := 35) hX (dc_X11_nights 10 rfl) (by decide) (fun h30 => ?_) (fun h30 => ?_)
      · exact g_sub [] rfl (c_X11_nights_35 hX hO hΩ σ)
      · refine g_iload_n hX (dc_X11_nights 11 rfl) rfl 2 rfl ?_
        refine g_iconst (w := (1 : Int32)) hX (dc_X11_nights 12 rfl) (by decide) ?_
        refine g_icmp_lt (tgt := 35) hX (dc_X11_nights 13 rfl) (by decide) (fun h31 => ?_) (fun h31 => ?_)
        · exact g_sub [] rfl (c_X11_nights_35 hX hO hΩ σ)
        · refine g_iload_n hX (dc_X11_nights 14 rfl) rfl 2 rfl ?_
          refine g_bipush (w := (60 : Int32)) hX (dc_X11_nights 15 rfl) (by decide) ?_
          refine g_icmp_le (tgt := 37) hX (dc_X11_nights 16 rfl) (by decide) (fun h32 => ?_) (fun h32 => ?_)
          · refine g_iload_n hX (dc_X11_nights 19 rfl) rfl 3 rfl ?_
            refine g_if_lt (tgt := 58) hX (dc_X11_nights 20 rfl) (by decide) (fun h33 => ?_) (fun h33 => ?_)
            · exact g_sub [] rfl (c_X11_nights_58 hX hO hΩ σ)
            · refine g_iload_n hX (dc_X11_nights 21 rfl) rfl 3 rfl ?_
              refine g_bipush (w := (100 : Int32)) hX (dc_X11_nights 22 rfl) (by decide) ?_
              refine g_icmp_gt (tgt := 58) hX (dc_X11_nights 23 rfl) (by decide) (fun h34 => ?_) (fun h34 => ?_)
              · exact g_sub [] rfl (c_X11_nights_58 hX hO hΩ σ)
              · refine g_iload hX (dc_X11_nights 24 rfl) 4 rfl ?_
                refine g_if_lt (tgt := 58) hX (dc_X11_nights 25 rfl) (by decide) (fun h35 => ?_) (fun h35 => ?_)
                · exact g_sub [] rfl (c_X11_nights_58 hX hO hΩ σ)
                · refine g_iload hX (dc_X11_nights 26 rfl) 4 rfl ?_
                  refine g_iconst (w := (1 : Int32)) hX (dc_X11_nights 27 rfl) (by decide) ?_
                  refine g_icmp_le (tgt := 60) hX (dc_X11_nights 28 rfl) (by decide) (fun h36 => ?_) (fun h36 => ?_)
                  · refine g_aload_n hX (dc_X11_nights 31 rfl) rfl 0 rfl ?_
                    refine g_aload_n hX (dc_X11_nights 32 rfl) rfl 0 rfl ?_
                    refine g_getF (q := 22) hX (dc_X11_nights 33 rfl) fl_X11_41 (by decide) rfl (stS hΩ 0 rfl) rfl ?_
                    refine g_getI hX (dc_X11_nights 34 rfl) fl_X11_210 (by decide) rfl (stS hΩ 22 rfl) ?_
                    refine g_putI (raw := false) hX (dc_X11_nights 35 rfl) fl_X11_348 (by decide) ⟨rfl, rfl⟩ ⟨rfl, rfl⟩ (stS hΩ 0 rfl) ?_
                    refine g_iconst (w := (0 : Int32)) hX (dc_X11_nights 36 rfl) (by decide) ?_
                    refine g_istore (L' := [(5, .int (0 : Int32)), (0, .ref 0), (1, .int x1), (2, .int x2), (3, .int x3), (4, .int x4)]) hX (dc_X11_nights 37 rfl) (by decide) rfl ?_
                    refine g_iconst (w := (0 : Int32)) hX (dc_X11_nights 38 rfl) (by decide) ?_
                    refine g_istore (L' := [(6, .int (0 : Int32)), (5, .int (0 : Int32)), (0, .ref 0), (1, .int x1), (2, .int x2), (3, .int x3), (4, .int x4)]) hX (dc_X11_nights 39 rfl) (by decide) rfl ?_
                    refine g_iconst (w := (0 : Int32)) hX (dc_X11_nights 40 rfl) (by decide) ?_
                    refine g_istore (L' := [(7, .int (0 : Int32)), (6, .int (0 : Int32)), (5, .int (0 : Int32)), (0, .ref 0), (1, .int x1), (2, .int x2), (3, .int x3), (4, .int x4)]) hX (dc_X11_nights 41 rfl) (by decide) rfl ?_
                    exact g_sub [3, 4, 5, 6, 7, 2, 1, 0] rfl (c_X11_nights_80 hX hO hΩ FU (x1) (x2) (x3) (x4) ((0 : Int32)) ((0 : Int32)) ((0 : Int32)) (wI σ 0 12 (sI σ 22 10)))
                  · exact g_sub [] rfl (c_X11_nights_58 hX hO hΩ σ)
          · exact g_sub [] rfl (c_X11_nights_35 hX hO hΩ σ)
def f_X11_nights (x1 : Int32) (x2 : Int32) (x3 : Int32) (x4 : Int32) (σ : MS) : Option (Int32 × MS) := b_X11_nights_0  x1 x2 x3 x4 σ
theorem con_X11_nights {Ω : OM} (hO : OKO Ω) (hΩ : oSH Ω = SHX) (x1 : Int32) (x2 : Int32) (x3 : Int32) (x4 : Int32) (σ : MS)  : Con Ω yX11_nights cX11_nights 9 (some .int) rm_X11_nights (emWI) [.ref 0, .int x1, .int x2, .int x3, .int x4] σ (f_X11_nights x1 x2 x3 x4 σ) :=
  con_of hO (by decide +kernel) (Nat.le_of_ble_eq_true rfl) rfl (fun X hX _ => c_X11_nights_0 hX hO hΩ   x1 x2 x3 x4 σ )
