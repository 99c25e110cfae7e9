/-! the smallest methods of the class: static functions -/
def inB (a x : Int32) : Bool := decide (¬ ((x >>> (a &&& 31)) &&& nI 1) = 0)
def codI (a c : Int32) : Int32 := if nI 24 ≤ c then nI 576 + nI 144 * a + c - nI 24 else nI 24 * a + c
def colI (r b : Int32) : Int32 := nI 24 + nI 24 * r + b
def isRo (r : Int32) : Bool := decide (¬ r < 0 ∧ ¬ nI 6 ≤ r)
def isCl (a n : Int32) : Bool := decide (¬ a < 0 ∧ ¬ n ≤ a)

set_option maxRecDepth 100000 in
set_option maxHeartbeats 4000000 in
theorem c_X3_isIn (l : Launch) (D : va_G) (cI cJ cZ : ClassId) (a0 : Int32) (x0 : Int32) : MI l yX3_isIn wsX3_isIn { frames := 0, cells := 0, slots := 0, locals := 0 } D (tyL cI cJ cZ) [.int a0, .int x0] [] [] (bI (inB a0 x0)) := by
  refine metI_of (cc := cX3_isIn) (maxL := 2) (ret := (some .boolean)) (by decide +kernel) rfl (Nat.le_of_ble_eq_true rfl) ?_
  intro K hC hRm hNL hDis hLis hRT hIni hQ
  refine z_iload_n (pc := 0) hC 1 dX3_isIn_0 rfl ?_
  refine z_iload_n (pc := 1) hC 0 dX3_isIn_1 rfl ?_
  refine z_ishr (pc := 2) (v := (x0 >>> (a0 &&& 31))) hC dX3_isIn_2 (rfl) ?_
  refine z_iconst (pc := 3) (v := (nI 1)) hC dX3_isIn_3 (by decide +kernel) ?_
  refine z_iand (pc := 4) (v := ((x0 >>> (a0 &&& 31)) &&& (nI 1))) hC dX3_isIn_4 (rfl) ?_
  refine z_if_eq (pc := 5) (tgt := 12) hC dX3_isIn_5 (by decide) (fun h5 => ?_) (fun h5 => ?_)
  · refine z_iconst (pc := 12) (v := (nI 0)) hC dX3_isIn_12 (by decide +kernel) ?_
    exact z_iret (pc := 13) hC hQ hRT (by decide +kernel) (by first | exact bI_f (by simp [inB, h5]) | exact bI_t (by simp [inB, h5])) (rfl) dX3_isIn_13
  · refine z_iconst (pc := 8) (v := (nI 1)) hC dX3_isIn_8 (by decide +kernel) ?_
    refine z_goto (pc := 9) (tgt := 13) hC dX3_isIn_9 (by decide) ?_
    exact z_iret (pc := 13) hC hQ hRT (by decide +kernel) (by first | exact bI_f (by simp [inB, h5]) | exact bI_t (by simp [inB, h5])) (rfl) dX3_isIn_13

set_option maxRecDepth 100000 in
set_option maxHeartbeats 4000000 in
theorem c_X3_codeOf (l : Launch) (D : va_G) (cI cJ cZ : ClassId) (a0 : Int32) (x0 : Int32) : MI l yX3_codeOf wsX3_codeOf { frames := 0, cells := 0, slots := 0, locals := 0 } D (tyL cI cJ cZ) [.int a0, .int x0] [] [] (codI a0 x0) := by
  refine metI_of (cc := cX3_codeOf) (maxL := 2) (ret := (some .int)) (by decide +kernel) rfl (Nat.le_of_ble_eq_true rfl) ?_
  intro K hC hRm hNL hDis hLis hRT hIni hQ
  refine z_iload_n (pc := 0) hC 1 dX3_codeOf_0 rfl ?_
  refine z_bipush (pc := 1) (v := (nI 24)) hC dX3_codeOf_1 (by decide +kernel) ?_
  refine z_icmp_ge (pc := 3) (tgt := 13) hC dX3_codeOf_3 (by decide) (fun h3 => ?_) (fun h3 => ?_)
  · refine z_sipush (pc := 13) (v := (nI 576)) hC dX3_codeOf_13 (by decide +kernel) ?_
    refine z_sipush (pc := 16) (v := (nI 144)) hC dX3_codeOf_16 (by decide +kernel) ?_
    refine z_iload_n (pc := 19) hC 0 dX3_codeOf_19 rfl ?_
    refine z_imul (pc := 20) (v := ((nI 144) * a0)) hC dX3_codeOf_20 (rfl) ?_
    refine z_iadd (pc := 21) (v := ((nI 576) + ((nI 144) * a0))) hC dX3_codeOf_21 (rfl) ?_
    refine z_iload_n (pc := 22) hC 1 dX3_codeOf_22 rfl ?_
    refine z_iadd (pc := 23) (v := (((nI 576) + ((nI 144) * a0)) + x0)) hC dX3_codeOf_23 (rfl) ?_
    refine z_bipush (pc := 24) (v := (nI 24)) hC dX3_codeOf_24 (by decide +kernel) ?_
    refine z_isub (pc := 26) (v := ((((nI 576) + ((nI 144) * a0)) + x0) - (nI 24))) hC dX3_codeOf_26 (rfl) ?_
    exact z_iret (pc := 27) hC hQ hRT (rfl) (by simp only [codI, if_pos h3]) (rfl) dX3_codeOf_27
  · refine z_bipush (pc := 6) (v := (nI 24)) hC dX3_codeOf_6 (by decide +kernel) ?_
    refine z_iload_n (pc := 8) hC 0 dX3_codeOf_8 rfl ?_
    refine z_imul (pc := 9) (v := ((nI 24) * a0)) hC dX3_codeOf_9 (rfl) ?_
    refine z_iload_n (pc := 10) hC 1 dX3_codeOf_10 rfl ?_
    refine z_iadd (pc := 11) (v := (((nI 24) * a0) + x0)) hC dX3_codeOf_11 (rfl) ?_
    exact z_iret (pc := 12) hC hQ hRT (rfl) (by simp only [codI, if_neg h3]) (rfl) dX3_codeOf_12

set_option maxRecDepth 100000 in
set_option maxHeartbeats 4000000 in
theorem c_X3_linkColumn (l : Launch) (D : va_G) (cI cJ cZ : ClassId) (r0 : Int32) (b0 : Int32) : MI l yX3_linkColumn wsX3_linkColumn { frames := 0, cells := 0, slots := 0, locals := 0 } D (tyL cI cJ cZ) [.int r0, .int b0] [] [] (colI r0 b0) := by
  refine metI_of (cc := cX3_linkColumn) (maxL := 2) (ret := (some .int)) (by decide +kernel) rfl (Nat.le_of_ble_eq_true rfl) ?_
  intro K hC hRm hNL hDis hLis hRT hIni hQ
  refine z_bipush (pc := 0) (v := (nI 24)) hC dX3_linkColumn_0 (by decide +kernel) ?_
  refine z_bipush (pc := 2) (v := (nI 24)) hC dX3_linkColumn_2 (by decide +kernel) ?_
  refine z_iload_n (pc := 4) hC 0 dX3_linkColumn_4 rfl ?_
  refine z_imul (pc := 5) (v := ((nI 24) * r0)) hC dX3_linkColumn_5 (rfl) ?_
  refine z_iadd (pc := 6) (v := ((nI 24) + ((nI 24) * r0))) hC dX3_linkColumn_6 (rfl) ?_
  refine z_iload_n (pc := 7) hC 1 dX3_linkColumn_7 rfl ?_
  refine z_iadd (pc := 8) (v := (((nI 24) + ((nI 24) * r0)) + b0)) hC dX3_linkColumn_8 (rfl) ?_
  exact z_iret (pc := 9) hC hQ hRT (rfl) (rfl) (rfl) dX3_linkColumn_9

set_option maxRecDepth 100000 in
set_option maxHeartbeats 4000000 in
theorem c_X3_isRole (l : Launch) (D : va_G) (cI cJ cZ : ClassId) (r0 : Int32) : MI l yX3_isRole wsX3_isRole { frames := 0, cells := 0, slots := 0, locals := 0 } D (tyL cI cJ cZ) [.int r0] [] [] (bI (isRo r0)) := by
  refine metI_of (cc := cX3_isRole) (maxL := 1) (ret := (some .boolean)) (by decide +kernel) rfl (Nat.le_of_ble_eq_true rfl) ?_
  intro K hC hRm hNL hDis hLis hRT hIni hQ
  refine z_iload_n (pc := 0) hC 0 dX3_isRole_0 rfl ?_
  refine z_if_lt (pc := 1) (tgt := 14) hC dX3_isRole_1 (by decide) (fun h1 => ?_) (fun h1 => ?_)
  · refine z_iconst (pc := 14) (v := (nI 0)) hC dX3_isRole_14 (by decide +kernel) ?_
    exact z_iret (pc := 15) hC hQ hRT (by decide +kernel) (by first | exact bI_t (by simp [isRo, *]) | exact bI_f (by simp [isRo, *])) (rfl) dX3_isRole_15
  · refine z_iload_n (pc := 4) hC 0 dX3_isRole_4 rfl ?_
    refine z_bipush (pc := 5) (v := (nI 6)) hC dX3_isRole_5 (by decide +kernel) ?_
    refine z_icmp_ge (pc := 7) (tgt := 14) hC dX3_isRole_7 (by decide) (fun h7 => ?_) (fun h7 => ?_)
    · refine z_iconst (pc := 14) (v := (nI 0)) hC dX3_isRole_14 (by decide +kernel) ?_
      exact z_iret (pc := 15) hC hQ hRT (by decide +kernel) (by first | exact bI_t (by simp [isRo, *]) | exact bI_f (by simp [isRo, *])) (rfl) dX3_isRole_15
    · refine z_iconst (pc := 10) (v := (nI 1)) hC dX3_isRole_10 (by decide +kernel) ?_
      refine z_goto (pc := 11) (tgt := 15) hC dX3_isRole_11 (by decide) ?_
      exact z_iret (pc := 15) hC hQ hRT (by decide +kernel) (by first | exact bI_t (by simp [isRo, *]) | exact bI_f (by simp [isRo, *])) (rfl) dX3_isRole_15
