/-! ===== the law's loop ===== -/
section LP
variable {p : Program} {l : Launch} {e : Env} {s : State} {m : MethodId} {below : List Frame} {meth : Method} {c : Code} {b Ln : Nat} {xs : Nat → Int32} {dA : Nat → Nat} {D : va_G} {adK adV : Nat → Nat} {u v pc : Nat}
theorem law_loop (hall : ∀ k, k < 32 → StpS k) (hF : LF p s m meth c b Ln xs dA D adK adV) : ∀ (n t u v : Nat) (σx σm : MS), Ln + 6 ≤ 6 * t + n → 6 * t ≤ Ln → Inv t σx σm → u ≤ 104 + 105 * t → v ≤ 10010 + 614 * t → LG p l e s m below meth c b dA D adK adV u v 18 (nI (6 * t)) [] σx σm := by
  have hLn : Ln ≤ 3072 := hF.2.2.2.2.2.2.2.2.2.1
  intro n
  induction n with
  | zero => intro t u v σx σm h1 h2; omega
  | succ n ih =>
    intro t u v σx σm h1 h2 hI hu hv
    refine l_iload3 hF (dc_lh 10 rfl) (l_aload0 hF (dc_lh 11 rfl) (l_slen hF (dc_lh 12 rfl) rfl (l_bipush (w := 6) hF (dc_lh 13 rfl) (by decide) (l_isub hF (dc_lh 14 rfl) (l_gt (tgt := 1128) hF (dc_lh 15 rfl) (by decide) (fun _ => ?_) (fun hc => ?_))))))
    · refine l_iconst (w := 1) hF (dc_lh 24 rfl) (by decide) ?_
      intro H locs ls g1 g2 g3 g4
      exact W.forget (locs := []) (L := locs) g3.2.2 (W.widen (by omega) (by omega) (lw_ret hF.1 hF.2.1 hF.2.2.2.1 hF.2.2.2.2.2.2.1 (dc_lh 25 rfl).1))
    · have hle : 6 * t + 6 ≤ Ln := by
        have e1 : (Int32.ofNat Ln - 6).toInt = (Ln : Int) - 6 := by
          have : (nI Ln - 6).toInt = (Ln : Int) - 6 := by
            rw [Int32.toInt_sub, nI_toInt (by omega), show (6 : Int32).toInt = 6 by decide]
            rw [Int.bmod_eq_of_le (by omega) (by omega)]
          exact this
        rw [Int32.lt_iff_toInt_lt, e1, nI_toInt (by omega)] at hc
        omega
      have hin : ∀ j, j < 6 → vp_in (nI (6 * t) + Int32.ofNat j) Ln := fun j hj => by
        show vp_in (nI (6 * t) + nI j) Ln
        rw [nI_add]
        exact in_n (by omega) (by omega)
      have hin0 : vp_in (nI (6 * t)) Ln := in_n (by omega) (by omega)
      refine l_aload0 hF (dc_lh 16 rfl) (l_iload3 hF (dc_lh 17 rfl) (l_sld hF (dc_lh 18 rfl) hin0 (l_bipush (w := 31) hF (dc_lh 19 rfl) (by decide) (l_iand hF (dc_lh 20 rfl) ?_))))
      obtain ⟨k, hk, ek⟩ := and31 (xs (nI (6 * t)).toNatClampNeg)
      rw [ek]
      intro H locs ls g1 g2 g3 g4
      obtain ⟨r, σx', σm', q1, q2, q3⟩ := hall k hk t (avs xs (nI (6 * t))) σx σm (by omega) hI g1.2.2.2
      refine l_case hF hk hin q1 q2 ⟨by omega, by omega⟩ (fun u' v' hu' hv' => ?_) H locs ls g1 g2 g3 g4
      have y1 : Ln + 6 ≤ 6 * (t + 1) + n := by omega
      have y2 : 6 * (t + 1) ≤ Ln := by omega
      have y3 : u' ≤ 104 + 105 * (t + 1) := by omega
      have y4 : v' ≤ 10010 + 614 * (t + 1) := by
        rw [Nat.mul_succ, ← Nat.add_assoc]
        exact Nat.le_trans hv' (Nat.add_le_add_right hv 614)
      refine l_iinc (w := nI (6 * (t + 1))) hF (dc_lh 22 rfl) ?_ (l_goto (tgt := 18) hF (dc_lh 23 rfl) (by decide) (ih (t + 1) u' v' σx' σm' y1 y2 q3 y3 y4))
      show nI (6 * t) + nI 6 = _
      rw [nI_add]
      rfl
theorem whole_at (hall : ∀ k, k < 32 → StpS k) (hbd : Ln ≤ 3072) (h : lw_At p s m meth c b Ln xs) : W p l e room_1 s m #[Value.ref b] below meth c s.heap [] 0 0 (lw_Z below #[Value.ref b] s) (entryFrame m ([Value.ref b] : List Value).toArray 4) := by
  obtain ⟨hx, hb, hr, hml, hown, hts, hX, hbl, hlk, hgv⟩ := h
  obtain ⟨dA, D, adK, adV, hKK⟩ := law_env hts hgv
  have hF : LF p s m meth c b Ln xs dA D adK adV := ⟨hx, hb, hml, hr, hown, fun w hw => hts w (List.mem_filter.mp hw).1, hlk, hX, hbl, hbd, hKK⟩
  rw [lg_entry_eq]
  have hl := lv_entry [Value.ref b] (n := 4) (show (1 : Nat) ≤ 4 by decide)
  obtain ⟨σx, σm, ex, em, nx, nm, sx, sm, hI⟩ := start_inv
  have hr0 : okR0 σx = true := by
    obtain ⟨σ', e1, e2⟩ := okO_some st_r
    rw [ex] at e1
    rw [Option.some.inj e1]; exact e2
  refine l_mk (ci := 11) (rmy := rm_X11_init) (σ' := σx) hF (by decide) (dc_lh 0 rfl) (dc_lh 1 rfl) (dc_lh 2 rfl) wl_L_7 wb_X11 wn_X11 ml_L_9 wi_X11_init rfl (by rw [← ex]; exact con_X11_init (oX1_ok dA D adK adV s.heap.size) trivial 0 _ (Or.inr ⟨by decide, al_S _ _ _⟩) (Nat.le_refl 0)) ⟨Nat.le_of_ble_eq_true rfl, Nat.le_of_ble_eq_true rfl⟩ ⟨Nat.le_of_ble_eq_true rfl, Nat.le_of_ble_eq_true rfl⟩ va_S.rf hl.1 (fun H1 locs1 hR1 hk1 hS1 => ?_)
  have z1 : H1.size = s.heap.size + 56 := by
    have := (hR1.2.2.1.1 trivial).2
    rw [nx] at this
    exact this
  refine lv_astore_n (lv' := [(1, .ref s.heap.size), (0, .ref b)]) hx hb (dc_lh 3 rfl).1 rfl hl (by decide) rfl (fun ls1 hl1 => ?_)
  refine l_mk (ci := 12) (rmy := rm_X12_init) (σ' := σm) hF (by decide) (dc_lh 4 rfl) (dc_lh 5 rfl) (dc_lh 6 rfl) wl_L_10 wb_X12 wn_X12 ml_L_12 wi_X12_init rfl (by rw [← em]; exact con_X12_init (oX1_ok dA D adK adV H1.size) trivial 0 _ (Or.inr ⟨by decide, al_S _ _ _⟩) (Nat.le_refl 0)) ⟨Nat.le_of_ble_eq_true rfl, Nat.le_of_ble_eq_true rfl⟩ ⟨Nat.le_of_ble_eq_true rfl, Nat.le_of_ble_eq_true rfl⟩ hS1 hl1.1 (fun H2 locs2 hR2 hk2 hS2 => ?_)
  have z2 : H2.size = s.heap.size + 104 := by
    have : H2.size = H1.size + sN σm := (hR2.2.2.1.1 trivial).2
    rw [nm, z1] at this
    omega
  refine lv_astore_n (lv' := [(2, .ref H1.size), (1, .ref s.heap.size), (0, .ref b)]) hx hb (dc_lh 7 rfl).1 rfl hl1 (by decide) rfl (fun ls2 hl2 => ?_)
  refine lv_iconst (v := (0 : Int32)) hx hb (dc_lh 8 rfl).1 (by decide) ?_
  refine lv_istore_n (lv' := [(3, .int 0), (2, .ref H1.size), (1, .ref s.heap.size), (0, .ref b)]) hx hb (dc_lh 9 rfl).1 rfl hl2 (by decide) rfl (fun ls3 hl3 => ?_)
  rw [z1] at hR2 hl3 hk2
  exact law_loop hall hF (Ln + 6) 0 _ _ σx σm (by omega) (by omega) hI (by decide) (by decide) H2 locs2 ls3 (rep_cx hR1 nx sx hr0 z2 hk2) (rep_cm hR2 nm sm) hS2 (lv_sub hl3 [3, 2, 1, 0] rfl)
end LP
