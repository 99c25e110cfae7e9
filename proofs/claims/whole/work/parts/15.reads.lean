/-! ElCompletion$Closure, the reads -/
theorem lg_lt0 {x y : Int64} : lg_cmp x y < 0 ↔ x < y := by
  unfold lg_cmp
  by_cases h1 : y < x
  · simp only [h1, if_true]
    exact ⟨fun h => absurd h (by decide), fun h => absurd (Int64.lt_trans h h1) Int64.lt_irrefl⟩
  · by_cases h2 : x = y
    · subst h2
      simp [Int64.lt_irrefl]
    · simp only [h1, h2, if_false]
      exact ⟨fun _ => Int64.lt_of_le_of_ne (Int64.not_lt.mp h1) h2, fun _ => by decide⟩
theorem lg_eq0 {x y : Int64} : lg_cmp x y = 0 ↔ x = y := by
  unfold lg_cmp
  by_cases h1 : y < x
  · simp only [h1, if_true]
    exact ⟨fun h => absurd h (by decide), fun h => by subst h; exact absurd h1 Int64.lt_irrefl⟩
  · by_cases h2 : x = y
    · subst h2
      simp [Int64.lt_irrefl]
    · simp only [h1, h2, if_false]
      exact ⟨fun h => absurd h (by decide), fun h => absurd h id⟩
def flw (G : Nat → Int64) (c : Int32) : Bool := decide (¬ c < 0 ∧ ¬ nI 4032 ≤ c ∧ ¬ G (tn c) < 0)
theorem flw_n {G : Nat → Int64} {c : Int32} (h : c < 0) : flw G c = false := decide_eq_false (fun q => q.1 h)
theorem flw_g {G : Nat → Int64} {c : Int32} (h : nI 4032 ≤ c) : flw G c = false := decide_eq_false (fun q => q.2.1 h)
theorem flw_nI {G : Nat → Int64} {j : Nat} (h : j < 4032) : flw G (nI j) = decide (¬ G j < 0) := by
  unfold flw
  rw [tn_nI (by omega)]
  exact decide_eq_decide.mpr ⟨fun q => q.2.2, fun q => ⟨nI_pos (by omega), nI_ge h (by decide), q⟩⟩
def rdO (g : Int64) : Int32 := (g >>> ((nI 32).toInt64 &&& 63)).toInt32
def axO (g : Int64) : Int32 := if (g >>> ((nI 24).toInt64 &&& 63)).toInt32 &&& nI 255 = nI 255 then (-1) else (g >>> ((nI 24).toInt64 &&& 63)).toInt32 &&& nI 255
def fiO (g : Int64) : Int32 := if (g >>> ((nI 12).toInt64 &&& 63)).toInt32 &&& nI 4095 = nI 4095 then (-1) else (g >>> ((nI 12).toInt64 &&& 63)).toInt32 &&& nI 4095
def seO (g : Int64) : Int32 := if g.toInt32 &&& nI 4095 = nI 4095 then (-1) else g.toInt32 &&& nI 4095

set_option maxRecDepth 100000 in
set_option maxHeartbeats 4000000 in
theorem c_X1_follows (l : Launch) (D : va_G) (cI cJ cZ : ClassId) (q : Nat → Nat) (G : Nat → Int64) (c0 : Int32) (fc : Int32) (rc : Int32) (ga : Int32) (p0 : Int32) : MI l yX1_follows wsX1_follows { frames := 0, cells := 0, slots := 0, locals := 0 } D (tyL cI cJ cZ) [.ref (q 6), .int p0] [(q 6, .inr (2, [.ref (q 7), .ref (q 8), .ref (q 9), .ref (q 10), .int c0, .int fc, .int rc, .int ga])), (q 9, .inl (cJ, 4032, .inr (.inl G)))] [(q 6, .inr (2, [.ref (q 7), .ref (q 8), .ref (q 9), .ref (q 10), .int c0, .int fc, .int rc, .int ga])), (q 9, .inl (cJ, 4032, .inr (.inl G)))] (bI (flw G p0)) := by
  refine metI_of (cc := cX1_follows) (maxL := 2) (ret := (some .boolean)) (by decide +kernel) rfl (Nat.le_of_ble_eq_true rfl) ?_
  intro K hC hRm hNL hDis hLis hRT hIni hQ
  have hinX1 : ∀ w ∈ wsX10, w ∈ wsX1_follows := by decide +kernel
  refine z_iload_n (pc := 0) hC 1 dX1_follows_0 rfl ?_
  refine z_if_lt (pc := 1) (tgt := 26) hC dX1_follows_1 (by decide) (fun h1 => ?_) (fun h1 => ?_)
  · refine z_iconst (pc := 26) (v := (nI 0)) hC dX1_follows_26 (by decide +kernel) ?_
    exact z_iret (pc := 27) hC hQ hRT (by decide +kernel) (by first | exact bI_f (flw_n h1) | exact bI_f (flw_g h8) | exact bI_t (by rw [flw_nI hj]; exact decide_eq_true (fun h => h19 (lg_lt0.mpr h))) | exact bI_f (by rw [flw_nI hj]; exact decide_eq_false (fun h => h (lg_lt0.mp h19)))) (rfl) dX1_follows_27
  · refine z_iload_n (pc := 4) hC 1 dX1_follows_4 rfl ?_
    refine z_sipush (pc := 5) (v := (nI 4032)) hC dX1_follows_5 (by decide +kernel) ?_
    refine z_icmp_ge (pc := 8) (tgt := 26) hC dX1_follows_8 (by decide) (fun h8 => ?_) (fun h8 => ?_)
    · refine z_iconst (pc := 26) (v := (nI 0)) hC dX1_follows_26 (by decide +kernel) ?_
      exact z_iret (pc := 27) hC hQ hRT (by decide +kernel) (by first | exact bI_f (flw_n h1) | exact bI_f (flw_g h8) | exact bI_t (by rw [flw_nI hj]; exact decide_eq_true (fun h => h19 (lg_lt0.mpr h))) | exact bI_f (by rw [flw_nI hj]; exact decide_eq_false (fun h => h (lg_lt0.mp h19)))) (rfl) dX1_follows_27
    · obtain ⟨j, hj, ej⟩ := nI_not_neg (by decide) h1 h8
      subst ej
      refine z_aload_n (pc := 11) hC 0 dX1_follows_11 rfl ?_
      refine z_get (pc := 12) (C := RX1) (T := TX1) (N := 8) hC hinX1 0 rfl rfl 2 (by decide) (by decide +kernel) rfl dX1_follows_12 ?_
      refine z_iload_n (pc := 15) hC 1 dX1_follows_15 rfl ?_
      refine z_lald (pc := 16) (v := (G j)) hC 1 1 rfl rfl (hj) (by decide) (rfl) dX1_follows_16 ?_
      refine z_lconst (pc := 17) (v := 0) hC dX1_follows_17 (by decide +kernel) ?_
      refine z_lcmp (pc := 18) (v := (lg_cmp (G j) 0)) hC dX1_follows_18 (rfl) ?_
      refine z_if_lt (pc := 19) (tgt := 26) hC dX1_follows_19 (by decide) (fun h19 => ?_) (fun h19 => ?_)
      · refine z_iconst (pc := 26) (v := (nI 0)) hC dX1_follows_26 (by decide +kernel) ?_
        exact z_iret (pc := 27) hC hQ hRT (by decide +kernel) (by first | exact bI_f (flw_n h1) | exact bI_f (flw_g h8) | exact bI_t (by rw [flw_nI hj]; exact decide_eq_true (fun h => h19 (lg_lt0.mpr h))) | exact bI_f (by rw [flw_nI hj]; exact decide_eq_false (fun h => h (lg_lt0.mp h19)))) (rfl) dX1_follows_27
      · refine z_iconst (pc := 22) (v := (nI 1)) hC dX1_follows_22 (by decide +kernel) ?_
        refine z_goto (pc := 23) (tgt := 27) hC dX1_follows_23 (by decide) ?_
        exact z_iret (pc := 27) hC hQ hRT (by decide +kernel) (by first | exact bI_f (flw_n h1) | exact bI_f (flw_g h8) | exact bI_t (by rw [flw_nI hj]; exact decide_eq_true (fun h => h19 (lg_lt0.mpr h))) | exact bI_f (by rw [flw_nI hj]; exact decide_eq_false (fun h => h (lg_lt0.mp h19)))) (rfl) dX1_follows_27

set_option maxRecDepth 100000 in
set_option maxHeartbeats 4000000 in
theorem c_X1_roundOf (l : Launch) (D : va_G) (cI cJ cZ : ClassId) (q : Nat → Nat) (G : Nat → Int64) (c0 : Int32) (fc : Int32) (rc : Int32) (ga : Int32) (j : Nat) (hj : j < 4032) : MI l yX1_roundOf wsX1_roundOf { frames := 0, cells := 0, slots := 0, locals := 0 } D (tyL cI cJ cZ) [.ref (q 6), .int (nI j)] [(q 6, .inr (2, [.ref (q 7), .ref (q 8), .ref (q 9), .ref (q 10), .int c0, .int fc, .int rc, .int ga])), (q 9, .inl (cJ, 4032, .inr (.inl G)))] [(q 6, .inr (2, [.ref (q 7), .ref (q 8), .ref (q 9), .ref (q 10), .int c0, .int fc, .int rc, .int ga])), (q 9, .inl (cJ, 4032, .inr (.inl G)))] (rdO (G j)) := by
  refine metI_of (cc := cX1_roundOf) (maxL := 2) (ret := (some .int)) (by decide +kernel) rfl (Nat.le_of_ble_eq_true rfl) ?_
  intro K hC hRm hNL hDis hLis hRT hIni hQ
  have hinX1 : ∀ w ∈ wsX10, w ∈ wsX1_roundOf := by decide +kernel
  refine z_aload_n (pc := 0) hC 0 dX1_roundOf_0 rfl ?_
  refine z_get (pc := 1) (C := RX1) (T := TX1) (N := 8) hC hinX1 0 rfl rfl 2 (by decide) (by decide +kernel) rfl dX1_roundOf_1 ?_
  refine z_iload_n (pc := 4) hC 1 dX1_roundOf_4 rfl ?_
  refine z_lald (pc := 5) (v := (G j)) hC 1 1 rfl rfl (by omega) (by decide) (rfl) dX1_roundOf_5 ?_
  refine z_bipush (pc := 6) (v := (nI 32)) hC dX1_roundOf_6 (by decide +kernel) ?_
  refine z_lshr (pc := 8) (v := ((G j) >>> ((nI 32).toInt64 &&& 63))) hC dX1_roundOf_8 rfl ?_
  refine z_l2i (pc := 9) (v := (((G j) >>> ((nI 32).toInt64 &&& 63)).toInt32)) hC dX1_roundOf_9 (rfl) ?_
  exact z_iret (pc := 10) hC hQ hRT (rfl) (rfl) (rfl) dX1_roundOf_10

set_option maxRecDepth 100000 in
set_option maxHeartbeats 4000000 in
theorem c_X1_axiomOf (l : Launch) (D : va_G) (cI cJ cZ : ClassId) (q : Nat → Nat) (G : Nat → Int64) (c0 : Int32) (fc : Int32) (rc : Int32) (ga : Int32) (j : Nat) (hj : j < 4032) : MI l yX1_axiomOf wsX1_axiomOf { frames := 0, cells := 0, slots := 0, locals := 0 } D (tyL cI cJ cZ) [.ref (q 6), .int (nI j)] [(q 6, .inr (2, [.ref (q 7), .ref (q 8), .ref (q 9), .ref (q 10), .int c0, .int fc, .int rc, .int ga])), (q 9, .inl (cJ, 4032, .inr (.inl G)))] [(q 6, .inr (2, [.ref (q 7), .ref (q 8), .ref (q 9), .ref (q 10), .int c0, .int fc, .int rc, .int ga])), (q 9, .inl (cJ, 4032, .inr (.inl G)))] (axO (G j)) := by
  refine metI_of (cc := cX1_axiomOf) (maxL := 3) (ret := (some .int)) (by decide +kernel) rfl (Nat.le_of_ble_eq_true rfl) ?_
  intro K hC hRm hNL hDis hLis hRT hIni hQ
  have hinX1 : ∀ w ∈ wsX10, w ∈ wsX1_axiomOf := by decide +kernel
  refine z_aload_n (pc := 0) hC 0 dX1_axiomOf_0 rfl ?_
  refine z_get (pc := 1) (C := RX1) (T := TX1) (N := 8) hC hinX1 0 rfl rfl 2 (by decide) (by decide +kernel) rfl dX1_axiomOf_1 ?_
  refine z_iload_n (pc := 4) hC 1 dX1_axiomOf_4 rfl ?_
  refine z_lald (pc := 5) (v := (G j)) hC 1 1 rfl rfl (by omega) (by decide) (rfl) dX1_axiomOf_5 ?_
  refine z_bipush (pc := 6) (v := (nI 24)) hC dX1_axiomOf_6 (by decide +kernel) ?_
  refine z_lshr (pc := 8) (v := ((G j) >>> ((nI 24).toInt64 &&& 63))) hC dX1_axiomOf_8 rfl ?_
  refine z_l2i (pc := 9) (v := (((G j) >>> ((nI 24).toInt64 &&& 63)).toInt32)) hC dX1_axiomOf_9 (rfl) ?_
  refine z_sipush (pc := 10) (v := (nI 255)) hC dX1_axiomOf_10 (by decide +kernel) ?_
  refine z_iand (pc := 13) (v := ((((G j) >>> ((nI 24).toInt64 &&& 63)).toInt32) &&& (nI 255))) hC dX1_axiomOf_13 (rfl) ?_
  refine z_istore_n (pc := 14) hC hNL [(2, .int ((((G j) >>> ((nI 24).toInt64 &&& 63)).toInt32) &&& (nI 255))), (0, .ref (q 6)), (1, .int (nI j))] dX1_axiomOf_14 (by decide) rfl ?_
  refine z_iload_n (pc := 15) hC 0 dX1_axiomOf_15 rfl ?_
  refine z_sipush (pc := 16) (v := (nI 255)) hC dX1_axiomOf_16 (by decide +kernel) ?_
  refine z_icmp_ne (pc := 19) (tgt := 26) hC dX1_axiomOf_19 (by decide) (fun h19 => ?_) (fun h19 => ?_)
  · refine z_iload_n (pc := 26) hC 0 dX1_axiomOf_26 rfl ?_
    exact z_iret (pc := 27) hC hQ hRT (rfl) (by first | exact (if_neg h19).symm | exact (if_pos h19).symm) (rfl) dX1_axiomOf_27
  · refine z_iconst (pc := 22) (v := (-1)) hC dX1_axiomOf_22 (by decide +kernel) ?_
    refine z_goto (pc := 23) (tgt := 27) hC dX1_axiomOf_23 (by decide) ?_
    exact z_iret (pc := 27) hC hQ hRT (rfl) (by first | exact (if_neg h19).symm | exact (if_pos h19).symm) (rfl) dX1_axiomOf_27

set_option maxRecDepth 100000 in
set_option maxHeartbeats 4000000 in
theorem c_X1_firstPremiseOf (l : Launch) (D : va_G) (cI cJ cZ : ClassId) (q : Nat → Nat) (G : Nat → Int64) (c0 : Int32) (fc : Int32) (rc : Int32) (ga : Int32) (j : Nat) (hj : j < 4032) : MI l yX1_firstPremiseOf wsX1_firstPremiseOf { frames := 0, cells := 0, slots := 0, locals := 0 } D (tyL cI cJ cZ) [.ref (q 6), .int (nI j)] [(q 6, .inr (2, [.ref (q 7), .ref (q 8), .ref (q 9), .ref (q 10), .int c0, .int fc, .int rc, .int ga])), (q 9, .inl (cJ, 4032, .inr (.inl G)))] [(q 6, .inr (2, [.ref (q 7), .ref (q 8), .ref (q 9), .ref (q 10), .int c0, .int fc, .int rc, .int ga])), (q 9, .inl (cJ, 4032, .inr (.inl G)))] (fiO (G j)) := by
  refine metI_of (cc := cX1_firstPremiseOf) (maxL := 3) (ret := (some .int)) (by decide +kernel) rfl (Nat.le_of_ble_eq_true rfl) ?_
  intro K hC hRm hNL hDis hLis hRT hIni hQ
  have hinX1 : ∀ w ∈ wsX10, w ∈ wsX1_firstPremiseOf := by decide +kernel
  refine z_aload_n (pc := 0) hC 0 dX1_firstPremiseOf_0 rfl ?_
  refine z_get (pc := 1) (C := RX1) (T := TX1) (N := 8) hC hinX1 0 rfl rfl 2 (by decide) (by decide +kernel) rfl dX1_firstPremiseOf_1 ?_
  refine z_iload_n (pc := 4) hC 1 dX1_firstPremiseOf_4 rfl ?_
  refine z_lald (pc := 5) (v := (G j)) hC 1 1 rfl rfl (by omega) (by decide) (rfl) dX1_firstPremiseOf_5 ?_
  refine z_bipush (pc := 6) (v := (nI 12)) hC dX1_firstPremiseOf_6 (by decide +kernel) ?_
  refine z_lshr (pc := 8) (v := ((G j) >>> ((nI 12).toInt64 &&& 63))) hC dX1_firstPremiseOf_8 rfl ?_
  refine z_l2i (pc := 9) (v := (((G j) >>> ((nI 12).toInt64 &&& 63)).toInt32)) hC dX1_firstPremiseOf_9 (rfl) ?_
  refine z_sipush (pc := 10) (v := (nI 4095)) hC dX1_firstPremiseOf_10 (by decide +kernel) ?_
  refine z_iand (pc := 13) (v := ((((G j) >>> ((nI 12).toInt64 &&& 63)).toInt32) &&& (nI 4095))) hC dX1_firstPremiseOf_13 (rfl) ?_
  refine z_istore_n (pc := 14) hC hNL [(2, .int ((((G j) >>> ((nI 12).toInt64 &&& 63)).toInt32) &&& (nI 4095))), (0, .ref (q 6)), (1, .int (nI j))] dX1_firstPremiseOf_14 (by decide) rfl ?_
  refine z_iload_n (pc := 15) hC 0 dX1_firstPremiseOf_15 rfl ?_
  refine z_sipush (pc := 16) (v := (nI 4095)) hC dX1_firstPremiseOf_16 (by decide +kernel) ?_
  refine z_icmp_ne (pc := 19) (tgt := 26) hC dX1_firstPremiseOf_19 (by decide) (fun h19 => ?_) (fun h19 => ?_)
  · refine z_iload_n (pc := 26) hC 0 dX1_firstPremiseOf_26 rfl ?_
    exact z_iret (pc := 27) hC hQ hRT (rfl) (by first | exact (if_neg h19).symm | exact (if_pos h19).symm) (rfl) dX1_firstPremiseOf_27
  · refine z_iconst (pc := 22) (v := (-1)) hC dX1_firstPremiseOf_22 (by decide +kernel) ?_
    refine z_goto (pc := 23) (tgt := 27) hC dX1_firstPremiseOf_23 (by decide) ?_
    exact z_iret (pc := 27) hC hQ hRT (rfl) (by first | exact (if_neg h19).symm | exact (if_pos h19).symm) (rfl) dX1_firstPremiseOf_27

set_option maxRecDepth 100000 in
set_option maxHeartbeats 4000000 in
theorem c_X1_secondPremiseOf (l : Launch) (D : va_G) (cI cJ cZ : ClassId) (q : Nat → Nat) (G : Nat → Int64) (c0 : Int32) (fc : Int32) (rc : Int32) (ga : Int32) (j : Nat) (hj : j < 4032) : MI l yX1_secondPremiseOf wsX1_secondPremiseOf { frames := 0, cells := 0, slots := 0, locals := 0 } D (tyL cI cJ cZ) [.ref (q 6), .int (nI j)] [(q 6, .inr (2, [.ref (q 7), .ref (q 8), .ref (q 9), .ref (q 10), .int c0, .int fc, .int rc, .int ga])), (q 9, .inl (cJ, 4032, .inr (.inl G)))] [(q 6, .inr (2, [.ref (q 7), .ref (q 8), .ref (q 9), .ref (q 10), .int c0, .int fc, .int rc, .int ga])), (q 9, .inl (cJ, 4032, .inr (.inl G)))] (seO (G j)) := by
  refine metI_of (cc := cX1_secondPremiseOf) (maxL := 3) (ret := (some .int)) (by decide +kernel) rfl (Nat.le_of_ble_eq_true rfl) ?_
  intro K hC hRm hNL hDis hLis hRT hIni hQ
  have hinX1 : ∀ w ∈ wsX10, w ∈ wsX1_secondPremiseOf := by decide +kernel
  refine z_aload_n (pc := 0) hC 0 dX1_secondPremiseOf_0 rfl ?_
  refine z_get (pc := 1) (C := RX1) (T := TX1) (N := 8) hC hinX1 0 rfl rfl 2 (by decide) (by decide +kernel) rfl dX1_secondPremiseOf_1 ?_
  refine z_iload_n (pc := 4) hC 1 dX1_secondPremiseOf_4 rfl ?_
  refine z_lald (pc := 5) (v := (G j)) hC 1 1 rfl rfl (by omega) (by decide) (rfl) dX1_secondPremiseOf_5 ?_
  refine z_l2i (pc := 6) (v := ((G j).toInt32)) hC dX1_secondPremiseOf_6 (rfl) ?_
  refine z_sipush (pc := 7) (v := (nI 4095)) hC dX1_secondPremiseOf_7 (by decide +kernel) ?_
  refine z_iand (pc := 10) (v := (((G j).toInt32) &&& (nI 4095))) hC dX1_secondPremiseOf_10 (rfl) ?_
  refine z_istore_n (pc := 11) hC hNL [(2, .int (((G j).toInt32) &&& (nI 4095))), (0, .ref (q 6)), (1, .int (nI j))] dX1_secondPremiseOf_11 (by decide) rfl ?_
  refine z_iload_n (pc := 12) hC 0 dX1_secondPremiseOf_12 rfl ?_
  refine z_sipush (pc := 13) (v := (nI 4095)) hC dX1_secondPremiseOf_13 (by decide +kernel) ?_
  refine z_icmp_ne (pc := 16) (tgt := 23) hC dX1_secondPremiseOf_16 (by decide) (fun h16 => ?_) (fun h16 => ?_)
  · refine z_iload_n (pc := 23) hC 0 dX1_secondPremiseOf_23 rfl ?_
    exact z_iret (pc := 24) hC hQ hRT (rfl) (by first | exact (if_neg h16).symm | exact (if_pos h16).symm) (rfl) dX1_secondPremiseOf_24
  · refine z_iconst (pc := 19) (v := (-1)) hC dX1_secondPremiseOf_19 (by decide +kernel) ?_
    refine z_goto (pc := 20) (tgt := 24) hC dX1_secondPremiseOf_20 (by decide) ?_
    exact z_iret (pc := 24) hC hQ hRT (rfl) (by first | exact (if_neg h16).symm | exact (if_pos h16).symm) (rfl) dX1_secondPremiseOf_24

def saB (N0 : Nat → Int32) (a b : Nat) : Bool := inB (nI a) (N0 b) && inB (nI b) (N0 a)
def lsF (N0 : Nat → Int32) (a : Nat) : Nat → Nat → Nat
  | 0, _ => a
  | f + 1, b => if saB N0 a b = true then b else lsF N0 a f (b + 1)
theorem lsF_t {N0 : Nat → Int32} {a b : Nat} (hb : b < a) (h : saB N0 a b = true) : lsF N0 a (a - b) b = b := by
  obtain ⟨f, hf⟩ : ∃ f, a - b = f + 1 := ⟨a - b - 1, by omega⟩
  rw [hf]
  exact if_pos h
theorem lsF_f {N0 : Nat → Int32} {a b : Nat} (hb : b < a) (h : saB N0 a b = false) : lsF N0 a (a - b) b = lsF N0 a (a - (b + 1)) (b + 1) := by
  obtain ⟨f, hf⟩ : ∃ f, a - b = f + 1 := ⟨a - b - 1, by omega⟩
  rw [hf, show a - (b + 1) = f by omega]
  exact if_neg (by rw [h]; decide)
theorem lsF_e {N0 : Nat → Int32} {a b : Nat} (hb : a ≤ b) : lsF N0 a (a - b) b = a := by rw [show a - b = 0 by omega]; rfl

set_option maxRecDepth 100000 in
set_option maxHeartbeats 4000000 in
theorem c_X1_areSame (l : Launch) (D : va_G) (cI cJ cZ : ClassId) (q : Nat → Nat) (N0 : Nat → Int32) (n : Nat) (fc : Int32) (rc : Int32) (ga : Int32) (a : Nat) (b : Nat) (ha : a < 168) (hb : b < 168) : MI l yX1_areSame wsX1_areSame { frames := 2, cells := 0, slots := 0, locals := 43 } D (tyL cI cJ cZ) [.ref (q 6), .int (nI a), .int (nI b)] [(q 6, .inr (2, [.ref (q 7), .ref (q 8), .ref (q 9), .ref (q 10), .int (nI n), .int fc, .int rc, .int ga])), (q 8, .inl (cI, 168, .inl N0))] [(q 6, .inr (2, [.ref (q 7), .ref (q 8), .ref (q 9), .ref (q 10), .int (nI n), .int fc, .int rc, .int ga])), (q 8, .inl (cI, 168, .inl N0))] (bI (saB N0 a b)) := by
  refine metI_of (cc := cX1_areSame) (maxL := 3) (ret := (some .boolean)) (by decide +kernel) rfl (Nat.le_of_ble_eq_true rfl) ?_
  intro K hC hRm hNL hDis hLis hRT hIni hQ
  refine z_aload_n (pc := 0) hC 0 dX1_areSame_0 rfl ?_
  refine z_iload_n (pc := 1) hC 1 dX1_areSame_1 rfl ?_
  refine z_iload_n (pc := 2) hC 2 dX1_areSame_2 rfl ?_
  refine z_callV_I (pc := 3) (y := yX1_has) (wy := wsX1_has) (rm := { frames := 1, cells := 0, slots := 0, locals := 21 }) (As := [.int (nI a), .int (nI b)]) (rest := []) (na := 2) (C := RX1) (T := TX1) (NF := 8) (ci := 2) (wc := [(q 6, .inr (2, [.ref (q 7), .ref (q 8), .ref (q 9), .ref (q 10), .int (nI n), .int fc, .int rc, .int ga])), (q 8, .inl (cI, 168, .inl N0))]) (wc2 := [(q 6, .inr (2, [.ref (q 7), .ref (q 8), .ref (q 9), .ref (q 10), .int (nI n), .int fc, .int rc, .int ga])), (q 8, .inl (cI, 168, .inl N0))]) hC hRm hDis hLis 0 rfl rfl gX1_areSame_X1_has ⟨rfl, by decide +kernel, by decide +kernel⟩ rfl ⟨by decide, by decide⟩ ⟨by decide, by decide⟩ rfl (Nat.le_of_ble_eq_true rfl) (by decide +kernel) (c_X1_has _ _ cI cJ cZ (q) (N0) (n) (fc) (rc) (ga) (nI a) (b) (by omega)) [0, 1] [] [0, 1] [] rfl (by decide) rfl (by decide) (by decide) [(q 6, .inr (2, [.ref (q 7), .ref (q 8), .ref (q 9), .ref (q 10), .int (nI n), .int fc, .int rc, .int ga])), (q 8, .inl (cI, 168, .inl N0))] rfl (by decide) rfl dX1_areSame_3 ?_
  refine z_bif_eq (pc := 6) (tgt := 22) hC dX1_areSame_6 (by decide) (fun h6 => ?_) (fun h6 => ?_)
  · refine z_iconst (pc := 22) (v := (nI 0)) hC dX1_areSame_22 (by decide +kernel) ?_
    exact z_iret (pc := 23) hC hQ hRT (by decide +kernel) (by first | exact bI_f (by unfold saB; rw [h6]; rfl) | exact bI_f (by unfold saB; rw [h6, h15]; rfl) | exact bI_t (by unfold saB; rw [h6, h15]; rfl)) (rfl) dX1_areSame_23
  · refine z_aload_n (pc := 9) hC 0 dX1_areSame_9 rfl ?_
    refine z_iload_n (pc := 10) hC 2 dX1_areSame_10 rfl ?_
    refine z_iload_n (pc := 11) hC 1 dX1_areSame_11 rfl ?_
    refine z_callV_I (pc := 12) (y := yX1_has) (wy := wsX1_has) (rm := { frames := 1, cells := 0, slots := 0, locals := 21 }) (As := [.int (nI b), .int (nI a)]) (rest := []) (na := 2) (C := RX1) (T := TX1) (NF := 8) (ci := 2) (wc := [(q 6, .inr (2, [.ref (q 7), .ref (q 8), .ref (q 9), .ref (q 10), .int (nI n), .int fc, .int rc, .int ga])), (q 8, .inl (cI, 168, .inl N0))]) (wc2 := [(q 6, .inr (2, [.ref (q 7), .ref (q 8), .ref (q 9), .ref (q 10), .int (nI n), .int fc, .int rc, .int ga])), (q 8, .inl (cI, 168, .inl N0))]) hC hRm hDis hLis 0 rfl rfl gX1_areSame_X1_has ⟨rfl, by decide +kernel, by decide +kernel⟩ rfl ⟨by decide, by decide⟩ ⟨by decide, by decide⟩ rfl (Nat.le_of_ble_eq_true rfl) (by decide +kernel) (c_X1_has _ _ cI cJ cZ (q) (N0) (n) (fc) (rc) (ga) (nI b) (a) (by omega)) [0, 1] [] [0, 1] [] rfl (by decide) rfl (by decide) (by decide) [(q 6, .inr (2, [.ref (q 7), .ref (q 8), .ref (q 9), .ref (q 10), .int (nI n), .int fc, .int rc, .int ga])), (q 8, .inl (cI, 168, .inl N0))] rfl (by decide) rfl dX1_areSame_12 ?_
    refine z_bif_eq (pc := 15) (tgt := 22) hC dX1_areSame_15 (by decide) (fun h15 => ?_) (fun h15 => ?_)
    · refine z_iconst (pc := 22) (v := (nI 0)) hC dX1_areSame_22 (by decide +kernel) ?_
      exact z_iret (pc := 23) hC hQ hRT (by decide +kernel) (by first | exact bI_f (by unfold saB; rw [h6]; rfl) | exact bI_f (by unfold saB; rw [h6, h15]; rfl) | exact bI_t (by unfold saB; rw [h6, h15]; rfl)) (rfl) dX1_areSame_23
    · refine z_iconst (pc := 18) (v := (nI 1)) hC dX1_areSame_18 (by decide +kernel) ?_
      refine z_goto (pc := 19) (tgt := 23) hC dX1_areSame_19 (by decide) ?_
      exact z_iret (pc := 23) hC hQ hRT (by decide +kernel) (by first | exact bI_f (by unfold saB; rw [h6]; rfl) | exact bI_f (by unfold saB; rw [h6, h15]; rfl) | exact bI_t (by unfold saB; rw [h6, h15]; rfl)) (rfl) dX1_areSame_23

set_option maxRecDepth 100000 in
set_option maxHeartbeats 4000000 in
theorem c_X1_leastSame (l : Launch) (D : va_G) (cI cJ cZ : ClassId) (q : Nat → Nat) (N0 : Nat → Int32) (n : Nat) (fc : Int32) (rc : Int32) (ga : Int32) (a : Nat) (ha : a < 168) : MI l yX1_leastSame wsX1_leastSame { frames := 3, cells := 0, slots := 0, locals := 65 } D (tyL cI cJ cZ) [.ref (q 6), .int (nI a)] [(q 6, .inr (2, [.ref (q 7), .ref (q 8), .ref (q 9), .ref (q 10), .int (nI n), .int fc, .int rc, .int ga])), (q 8, .inl (cI, 168, .inl N0))] [(q 6, .inr (2, [.ref (q 7), .ref (q 8), .ref (q 9), .ref (q 10), .int (nI n), .int fc, .int rc, .int ga])), (q 8, .inl (cI, 168, .inl N0))] (nI (lsF N0 a a 0)) := by
  refine metI_of (cc := cX1_leastSame) (maxL := 3) (ret := (some .int)) (by decide +kernel) rfl (Nat.le_of_ble_eq_true rfl) ?_
  intro K hC hRm hNL hDis hLis hRT hIni hQ
  refine z_iconst (pc := 0) (v := (nI 0)) hC dX1_leastSame_0 (by decide +kernel) ?_
  refine z_istore_n (pc := 1) hC hNL [(2, .int (nI 0)), (0, .ref (q 6)), (1, .int (nI a))] dX1_leastSame_1 (by decide) rfl ?_
  have L2 : ∀ (fu : Nat) (b : Nat) (hi : b ≤ a) (hf : a + 1 ≤ b + fu) (hX : lsF N0 a a 0 = lsF N0 a (a - b) b), Z K 0 0 [(q 6, .inr (2, [.ref (q 7), .ref (q 8), .ref (q 9), .ref (q 10), .int (nI n), .int fc, .int rc, .int ga])), (q 8, .inl (cI, 168, .inl N0))] [(2, .int (nI b)), (0, .ref (q 6)), (1, .int (nI a))] 2 [] := by
    intro fu
    induction fu with
    | zero =>
      intro b hi hf hX
      exact absurd trivial (by omega)
    | succ fu ih2 =>
      intro b hi hf hX
      refine z_iload_n (pc := 2) hC 0 dX1_leastSame_2 rfl ?_
      refine z_iload_n (pc := 3) hC 2 dX1_leastSame_3 rfl ?_
      refine z_ncmp_ge (pc := 4) (tgt := 24) hC dX1_leastSame_4 (by decide) (by omega) (by omega) (fun h4 => ?_) (fun h4 => ?_)
      · refine z_iload_n (pc := 24) hC 2 dX1_leastSame_24 rfl ?_
        exact z_iret (pc := 25) hC hQ hRT (rfl) (by rw [hX, lsF_e (by omega)]) (rfl) dX1_leastSame_25
      · refine z_aload_n (pc := 7) hC 1 dX1_leastSame_7 rfl ?_
        refine z_iload_n (pc := 8) hC 2 dX1_leastSame_8 rfl ?_
        refine z_iload_n (pc := 9) hC 0 dX1_leastSame_9 rfl ?_
        refine z_callV_I (pc := 10) (y := yX1_areSame) (wy := wsX1_areSame) (rm := { frames := 2, cells := 0, slots := 0, locals := 43 }) (As := [.int (nI a), .int (nI b)]) (rest := []) (na := 2) (C := RX1) (T := TX1) (NF := 8) (ci := 2) (wc := [(q 6, .inr (2, [.ref (q 7), .ref (q 8), .ref (q 9), .ref (q 10), .int (nI n), .int fc, .int rc, .int ga])), (q 8, .inl (cI, 168, .inl N0))]) (wc2 := [(q 6, .inr (2, [.ref (q 7), .ref (q 8), .ref (q 9), .ref (q 10), .int (nI n), .int fc, .int rc, .int ga])), (q 8, .inl (cI, 168, .inl N0))]) hC hRm hDis hLis 0 rfl rfl gX1_leastSame_X1_areSame ⟨rfl, by decide +kernel, by decide +kernel⟩ rfl ⟨by decide, by decide⟩ ⟨by decide, by decide⟩ rfl (Nat.le_of_ble_eq_true rfl) (by decide +kernel) (c_X1_areSame _ _ cI cJ cZ (q) (N0) (n) (fc) (rc) (ga) (a) (b) (by omega) (by omega)) [0, 1] [] [0, 1] [] rfl (by decide) rfl (by decide) (by decide) [(q 6, .inr (2, [.ref (q 7), .ref (q 8), .ref (q 9), .ref (q 10), .int (nI n), .int fc, .int rc, .int ga])), (q 8, .inl (cI, 168, .inl N0))] rfl (by decide) rfl dX1_leastSame_10 ?_
        refine z_bif_eq (pc := 13) (tgt := 18) hC dX1_leastSame_13 (by decide) (fun h13 => ?_) (fun h13 => ?_)
        · refine z_iinc (pc := 18) (q := 0) (x := (nI b)) (v := (nI (b + 1))) hC hNL [(2, .int (nI (b + 1))), (0, .ref (q 6)), (1, .int (nI a))] dX1_leastSame_18 rfl (nI_add _ _) (by decide) rfl ?_
          refine z_goto (pc := 21) (tgt := 2) hC dX1_leastSame_21 (by decide) ?_
          exact ih2 (b + 1) (by omega) (by omega) (by rw [hX, lsF_f (by omega) h13])
        · refine z_iload_n (pc := 16) hC 0 dX1_leastSame_16 rfl ?_
          exact z_iret (pc := 17) hC hQ hRT (rfl) (by rw [hX, lsF_t (by omega) h13]) (rfl) dX1_leastSame_17
  exact L2 (a + 1) (0) (by omega) (by omega) (rfl)

def badB (N0 : Nat → Int32) (a b c : Nat) : Bool := inB (nI a) (N0 c) && inB (nI c) (N0 b) && !saB N0 c a && !saB N0 c b
def noB (N0 : Nat → Int32) (a b : Nat) : Nat → Nat → Bool
  | 0, _ => true
  | f + 1, c => if badB N0 a b c = true then false else noB N0 a b f (c + 1)
def parB (N0 : Nat → Int32) (n a b : Nat) : Bool := (inB (nI a) (N0 b) && !inB (nI b) (N0 a) && decide (lsF N0 b b 0 = b)) && noB N0 a b n 0
theorem noB_t {N0 : Nat → Int32} {a b n c : Nat} (hc : c < n) (h : badB N0 a b c = true) : noB N0 a b (n - c) c = false := by
  obtain ⟨f, hf⟩ : ∃ f, n - c = f + 1 := ⟨n - c - 1, by omega⟩
  rw [hf]
  exact if_pos h
theorem noB_f {N0 : Nat → Int32} {a b n c : Nat} (hc : c < n) (h : badB N0 a b c = false) : noB N0 a b (n - c) c = noB N0 a b (n - (c + 1)) (c + 1) := by
  obtain ⟨f, hf⟩ : ∃ f, n - c = f + 1 := ⟨n - c - 1, by omega⟩
  rw [hf, show n - (c + 1) = f by omega]
  exact if_neg (by rw [h]; decide)
theorem noB_e {N0 : Nat → Int32} {a b n c : Nat} (hc : n ≤ c) : noB N0 a b (n - c) c = true := by rw [show n - c = 0 by omega]; rfl
theorem lsF_le {N0 : Nat → Int32} {a : Nat} : ∀ f b, b + f ≤ a → lsF N0 a f b ≤ a
  | 0, _, _ => Nat.le_refl a
  | f + 1, b, h => by
    unfold lsF
    split
    · omega
    · exact lsF_le f (b + 1) (by omega)

set_option maxRecDepth 100000 in
set_option maxHeartbeats 4000000 in
theorem c_X1_isParent (l : Launch) (D : va_G) (cI cJ cZ : ClassId) (q : Nat → Nat) (N0 : Nat → Int32) (n : Nat) (fc : Int32) (rc : Int32) (ga : Int32) (a : Nat) (b : Nat) (hn : n ≤ 24) (ha : a < 168) (hb : b < 168) : MI l yX1_isParent wsX1_isParent { frames := 4, cells := 0, slots := 0, locals := 87 } D (tyL cI cJ cZ) [.ref (q 6), .int (nI a), .int (nI b)] [(q 6, .inr (2, [.ref (q 7), .ref (q 8), .ref (q 9), .ref (q 10), .int (nI n), .int fc, .int rc, .int ga])), (q 8, .inl (cI, 168, .inl N0))] [(q 6, .inr (2, [.ref (q 7), .ref (q 8), .ref (q 9), .ref (q 10), .int (nI n), .int fc, .int rc, .int ga])), (q 8, .inl (cI, 168, .inl N0))] (bI (parB N0 n a b)) := by
  refine metI_of (cc := cX1_isParent) (maxL := 4) (ret := (some .boolean)) (by decide +kernel) rfl (Nat.le_of_ble_eq_true rfl) ?_
  intro K hC hRm hNL hDis hLis hRT hIni hQ
  have hinX1 : ∀ w ∈ wsX10, w ∈ wsX1_isParent := by decide +kernel
  refine z_aload_n (pc := 0) hC 0 dX1_isParent_0 rfl ?_
  refine z_iload_n (pc := 1) hC 1 dX1_isParent_1 rfl ?_
  refine z_iload_n (pc := 2) hC 2 dX1_isParent_2 rfl ?_
  refine z_callV_I (pc := 3) (y := yX1_has) (wy := wsX1_has) (rm := { frames := 1, cells := 0, slots := 0, locals := 21 }) (As := [.int (nI a), .int (nI b)]) (rest := []) (na := 2) (C := RX1) (T := TX1) (NF := 8) (ci := 2) (wc := [(q 6, .inr (2, [.ref (q 7), .ref (q 8), .ref (q 9), .ref (q 10), .int (nI n), .int fc, .int rc, .int ga])), (q 8, .inl (cI, 168, .inl N0))]) (wc2 := [(q 6, .inr (2, [.ref (q 7), .ref (q 8), .ref (q 9), .ref (q 10), .int (nI n), .int fc, .int rc, .int ga])), (q 8, .inl (cI, 168, .inl N0))]) hC hRm hDis hLis 0 rfl rfl gX1_isParent_X1_has ⟨rfl, by decide +kernel, by decide +kernel⟩ rfl ⟨by decide, by decide⟩ ⟨by decide, by decide⟩ rfl (Nat.le_of_ble_eq_true rfl) (by decide +kernel) (c_X1_has _ _ cI cJ cZ (q) (N0) (n) (fc) (rc) (ga) (nI a) (b) (by omega)) [0, 1] [] [0, 1] [] rfl (by decide) rfl (by decide) (by decide) [(q 6, .inr (2, [.ref (q 7), .ref (q 8), .ref (q 9), .ref (q 10), .int (nI n), .int fc, .int rc, .int ga])), (q 8, .inl (cI, 168, .inl N0))] rfl (by decide) rfl dX1_isParent_3 ?_
  refine z_bif_eq (pc := 6) (tgt := 27) hC dX1_isParent_6 (by decide) (fun h6 => ?_) (fun h6 => ?_)
  · refine z_iconst (pc := 27) (v := (nI 0)) hC dX1_isParent_27 (by decide +kernel) ?_
    exact z_iret (pc := 28) hC hQ hRT (by decide +kernel) (by first | exact bI_f (by unfold parB; rw [h6]; rfl) | exact bI_f (by unfold parB; rw [h6, h15]; rfl) | exact bI_f (by unfold parB; rw [h6, h15, decide_eq_false h24]; rfl)) (rfl) dX1_isParent_28
  · refine z_aload_n (pc := 9) hC 0 dX1_isParent_9 rfl ?_
    refine z_iload_n (pc := 10) hC 2 dX1_isParent_10 rfl ?_
    refine z_iload_n (pc := 11) hC 1 dX1_isParent_11 rfl ?_
    refine z_callV_I (pc := 12) (y := yX1_has) (wy := wsX1_has) (rm := { frames := 1, cells := 0, slots := 0, locals := 21 }) (As := [.int (nI b), .int (nI a)]) (rest := []) (na := 2) (C := RX1) (T := TX1) (NF := 8) (ci := 2) (wc := [(q 6, .inr (2, [.ref (q 7), .ref (q 8), .ref (q 9), .ref (q 10), .int (nI n), .int fc, .int rc, .int ga])), (q 8, .inl (cI, 168, .inl N0))]) (wc2 := [(q 6, .inr (2, [.ref (q 7), .ref (q 8), .ref (q 9), .ref (q 10), .int (nI n), .int fc, .int rc, .int ga])), (q 8, .inl (cI, 168, .inl N0))]) hC hRm hDis hLis 0 rfl rfl gX1_isParent_X1_has ⟨rfl, by decide +kernel, by decide +kernel⟩ rfl ⟨by decide, by decide⟩ ⟨by decide, by decide⟩ rfl (Nat.le_of_ble_eq_true rfl) (by decide +kernel) (c_X1_has _ _ cI cJ cZ (q) (N0) (n) (fc) (rc) (ga) (nI b) (a) (by omega)) [0, 1] [] [0, 1] [] rfl (by decide) rfl (by decide) (by decide) [(q 6, .inr (2, [.ref (q 7), .ref (q 8), .ref (q 9), .ref (q 10), .int (nI n), .int fc, .int rc, .int ga])), (q 8, .inl (cI, 168, .inl N0))] rfl (by decide) rfl dX1_isParent_12 ?_
    refine z_bif_ne (pc := 15) (tgt := 27) hC dX1_isParent_15 (by decide) (fun h15 => ?_) (fun h15 => ?_)
    · refine z_iconst (pc := 27) (v := (nI 0)) hC dX1_isParent_27 (by decide +kernel) ?_
      exact z_iret (pc := 28) hC hQ hRT (by decide +kernel) (by first | exact bI_f (by unfold parB; rw [h6]; rfl) | exact bI_f (by unfold parB; rw [h6, h15]; rfl) | exact bI_f (by unfold parB; rw [h6, h15, decide_eq_false h24]; rfl)) (rfl) dX1_isParent_28
    · refine z_aload_n (pc := 18) hC 0 dX1_isParent_18 rfl ?_
      refine z_iload_n (pc := 19) hC 2 dX1_isParent_19 rfl ?_
      refine z_callV_I (pc := 20) (y := yX1_leastSame) (wy := wsX1_leastSame) (rm := { frames := 3, cells := 0, slots := 0, locals := 65 }) (As := [.int (nI b)]) (rest := []) (na := 1) (C := RX1) (T := TX1) (NF := 8) (ci := 2) (wc := [(q 6, .inr (2, [.ref (q 7), .ref (q 8), .ref (q 9), .ref (q 10), .int (nI n), .int fc, .int rc, .int ga])), (q 8, .inl (cI, 168, .inl N0))]) (wc2 := [(q 6, .inr (2, [.ref (q 7), .ref (q 8), .ref (q 9), .ref (q 10), .int (nI n), .int fc, .int rc, .int ga])), (q 8, .inl (cI, 168, .inl N0))]) hC hRm hDis hLis 0 rfl rfl gX1_isParent_X1_leastSame ⟨rfl, by decide +kernel, by decide +kernel⟩ rfl ⟨by decide, by decide⟩ ⟨by decide, by decide⟩ rfl (Nat.le_of_ble_eq_true rfl) (by decide +kernel) (c_X1_leastSame _ _ cI cJ cZ (q) (N0) (n) (fc) (rc) (ga) (b) (by omega)) [0, 1] [] [0, 1] [] rfl (by decide) rfl (by decide) (by decide) [(q 6, .inr (2, [.ref (q 7), .ref (q 8), .ref (q 9), .ref (q 10), .int (nI n), .int fc, .int rc, .int ga])), (q 8, .inl (cI, 168, .inl N0))] rfl (by decide) rfl dX1_isParent_20 ?_
      refine z_iload_n (pc := 23) hC 2 dX1_isParent_23 rfl ?_
      refine z_ncmp_eq (pc := 24) (tgt := 29) hC dX1_isParent_24 (by decide) (Nat.lt_of_le_of_lt (lsF_le b 0 (by omega)) (by omega)) (by omega) (fun h24 => ?_) (fun h24 => ?_)
      · refine z_iconst (pc := 29) (v := (nI 0)) hC dX1_isParent_29 (by decide +kernel) ?_
        refine z_istore_n (pc := 30) hC hNL [(3, .int (nI 0)), (0, .ref (q 6)), (1, .int (nI a)), (2, .int (nI b))] dX1_isParent_30 (by decide) rfl ?_
        have L31 : ∀ (fu : Nat) (c : Nat) (hi : c ≤ n) (hf : n + 1 ≤ c + fu) (hX : parB N0 n a b = noB N0 a b (n - c) c), Z K 0 0 [(q 6, .inr (2, [.ref (q 7), .ref (q 8), .ref (q 9), .ref (q 10), .int (nI n), .int fc, .int rc, .int ga])), (q 8, .inl (cI, 168, .inl N0))] [(3, .int (nI c)), (0, .ref (q 6)), (1, .int (nI a)), (2, .int (nI b))] 31 [] := by
          intro fu
          induction fu with
          | zero =>
            intro c hi hf hX
            exact absurd trivial (by omega)
          | succ fu ih31 =>
            intro c hi hf hX
            refine z_iload_n (pc := 31) hC 0 dX1_isParent_31 rfl ?_
            refine z_aload_n (pc := 32) hC 1 dX1_isParent_32 rfl ?_
            refine z_get (pc := 33) (C := RX1) (T := TX1) (N := 8) hC hinX1 0 rfl rfl 4 (by decide) (by decide +kernel) rfl dX1_isParent_33 ?_
            refine z_ncmp_ge (pc := 36) (tgt := 83) hC dX1_isParent_36 (by decide) (by omega) (by omega) (fun h36 => ?_) (fun h36 => ?_)
            · refine z_iconst (pc := 83) (v := (nI 1)) hC dX1_isParent_83 (by decide +kernel) ?_
              exact z_iret (pc := 84) hC hQ hRT (by decide +kernel) (bI_t (by rw [hX, noB_e (by omega)])) (rfl) dX1_isParent_84
            · refine z_aload_n (pc := 39) hC 1 dX1_isParent_39 rfl ?_
              refine z_iload_n (pc := 40) hC 2 dX1_isParent_40 rfl ?_
              refine z_iload_n (pc := 41) hC 0 dX1_isParent_41 rfl ?_
              refine z_callV_I (pc := 42) (y := yX1_has) (wy := wsX1_has) (rm := { frames := 1, cells := 0, slots := 0, locals := 21 }) (As := [.int (nI a), .int (nI c)]) (rest := []) (na := 2) (C := RX1) (T := TX1) (NF := 8) (ci := 2) (wc := [(q 6, .inr (2, [.ref (q 7), .ref (q 8), .ref (q 9), .ref (q 10), .int (nI n), .int fc, .int rc, .int ga])), (q 8, .inl (cI, 168, .inl N0))]) (wc2 := [(q 6, .inr (2, [.ref (q 7), .ref (q 8), .ref (q 9), .ref (q 10), .int (nI n), .int fc, .int rc, .int ga])), (q 8, .inl (cI, 168, .inl N0))]) hC hRm hDis hLis 0 rfl rfl gX1_isParent_X1_has ⟨rfl, by decide +kernel, by decide +kernel⟩ rfl ⟨by decide, by decide⟩ ⟨by decide, by decide⟩ rfl (Nat.le_of_ble_eq_true rfl) (by decide +kernel) (c_X1_has _ _ cI cJ cZ (q) (N0) (n) (fc) (rc) (ga) (nI a) (c) (by omega)) [0, 1] [] [0, 1] [] rfl (by decide) rfl (by decide) (by decide) [(q 6, .inr (2, [.ref (q 7), .ref (q 8), .ref (q 9), .ref (q 10), .int (nI n), .int fc, .int rc, .int ga])), (q 8, .inl (cI, 168, .inl N0))] rfl (by decide) rfl dX1_isParent_42 ?_
              refine z_bif_eq (pc := 45) (tgt := 77) hC dX1_isParent_45 (by decide) (fun h45 => ?_) (fun h45 => ?_)
              · refine z_iinc (pc := 77) (q := 0) (x := (nI c)) (v := (nI (c + 1))) hC hNL [(3, .int (nI (c + 1))), (0, .ref (q 6)), (1, .int (nI a)), (2, .int (nI b))] dX1_isParent_77 rfl (nI_add _ _) (by decide) rfl ?_
                refine z_goto (pc := 80) (tgt := 31) hC dX1_isParent_80 (by decide) ?_
                exact ih31 (c + 1) (by omega) (by omega) (by
        first
        | rw [hX, noB_f (by omega) (by unfold badB; rw [h45]; rfl)]
        | rw [hX, noB_f (by omega) (by unfold badB; rw [h45, h54]; rfl)]
        | rw [hX, noB_f (by omega) (by unfold badB; rw [h45, h54, h63]; rfl)]
        | rw [hX, noB_f (by omega) (by unfold badB; rw [h45, h54, h63, h72]; rfl)])
              · refine z_aload_n (pc := 48) hC 1 dX1_isParent_48 rfl ?_
                refine z_iload_n (pc := 49) hC 0 dX1_isParent_49 rfl ?_
                refine z_iload_n (pc := 50) hC 3 dX1_isParent_50 rfl ?_
                refine z_callV_I (pc := 51) (y := yX1_has) (wy := wsX1_has) (rm := { frames := 1, cells := 0, slots := 0, locals := 21 }) (As := [.int (nI c), .int (nI b)]) (rest := []) (na := 2) (C := RX1) (T := TX1) (NF := 8) (ci := 2) (wc := [(q 6, .inr (2, [.ref (q 7), .ref (q 8), .ref (q 9), .ref (q 10), .int (nI n), .int fc, .int rc, .int ga])), (q 8, .inl (cI, 168, .inl N0))]) (wc2 := [(q 6, .inr (2, [.ref (q 7), .ref (q 8), .ref (q 9), .ref (q 10), .int (nI n), .int fc, .int rc, .int ga])), (q 8, .inl (cI, 168, .inl N0))]) hC hRm hDis hLis 0 rfl rfl gX1_isParent_X1_has ⟨rfl, by decide +kernel, by decide +kernel⟩ rfl ⟨by decide, by decide⟩ ⟨by decide, by decide⟩ rfl (Nat.le_of_ble_eq_true rfl) (by decide +kernel) (c_X1_has _ _ cI cJ cZ (q) (N0) (n) (fc) (rc) (ga) (nI c) (b) (by omega)) [0, 1] [] [0, 1] [] rfl (by decide) rfl (by decide) (by decide) [(q 6, .inr (2, [.ref (q 7), .ref (q 8), .ref (q 9), .ref (q 10), .int (nI n), .int fc, .int rc, .int ga])), (q 8, .inl (cI, 168, .inl N0))] rfl (by decide) rfl dX1_isParent_51 ?_
                refine z_bif_eq (pc := 54) (tgt := 77) hC dX1_isParent_54 (by decide) (fun h54 => ?_) (fun h54 => ?_)
                · refine z_iinc (pc := 77) (q := 0) (x := (nI c)) (v := (nI (c + 1))) hC hNL [(3, .int (nI (c + 1))), (0, .ref (q 6)), (1, .int (nI a)), (2, .int (nI b))] dX1_isParent_77 rfl (nI_add _ _) (by decide) rfl ?_
                  refine z_goto (pc := 80) (tgt := 31) hC dX1_isParent_80 (by decide) ?_
                  exact ih31 (c + 1) (by omega) (by omega) (by
        first
        | rw [hX, noB_f (by omega) (by unfold badB; rw [h45]; rfl)]
        | rw [hX, noB_f (by omega) (by unfold badB; rw [h45, h54]; rfl)]
        | rw [hX, noB_f (by omega) (by unfold badB; rw [h45, h54, h63]; rfl)]
        | rw [hX, noB_f (by omega) (by unfold badB; rw [h45, h54, h63, h72]; rfl)])
                · refine z_aload_n (pc := 57) hC 1 dX1_isParent_57 rfl ?_
                  refine z_iload_n (pc := 58) hC 0 dX1_isParent_58 rfl ?_
                  refine z_iload_n (pc := 59) hC 2 dX1_isParent_59 rfl ?_
                  refine z_callV_I (pc := 60) (y := yX1_areSame) (wy := wsX1_areSame) (rm := { frames := 2, cells := 0, slots := 0, locals := 43 }) (As := [.int (nI c), .int (nI a)]) (rest := []) (na := 2) (C := RX1) (T := TX1) (NF := 8) (ci := 2) (wc := [(q 6, .inr (2, [.ref (q 7), .ref (q 8), .ref (q 9), .ref (q 10), .int (nI n), .int fc, .int rc, .int ga])), (q 8, .inl (cI, 168, .inl N0))]) (wc2 := [(q 6, .inr (2, [.ref (q 7), .ref (q 8), .ref (q 9), .ref (q 10), .int (nI n), .int fc, .int rc, .int ga])), (q 8, .inl (cI, 168, .inl N0))]) hC hRm hDis hLis 0 rfl rfl gX1_isParent_X1_areSame ⟨rfl, by decide +kernel, by decide +kernel⟩ rfl ⟨by decide, by decide⟩ ⟨by decide, by decide⟩ rfl (Nat.le_of_ble_eq_true rfl) (by decide +kernel) (c_X1_areSame _ _ cI cJ cZ (q) (N0) (n) (fc) (rc) (ga) (c) (a) (by omega) (by omega)) [0, 1] [] [0, 1] [] rfl (by decide) rfl (by decide) (by decide) [(q 6, .inr (2, [.ref (q 7), .ref (q 8), .ref (q 9), .ref (q 10), .int (nI n), .int fc, .int rc, .int ga])), (q 8, .inl (cI, 168, .inl N0))] rfl (by decide) rfl dX1_isParent_60 ?_
                  refine z_bif_ne (pc := 63) (tgt := 77) hC dX1_isParent_63 (by decide) (fun h63 => ?_) (fun h63 => ?_)
                  · refine z_iinc (pc := 77) (q := 0) (x := (nI c)) (v := (nI (c + 1))) hC hNL [(3, .int (nI (c + 1))), (0, .ref (q 6)), (1, .int (nI a)), (2, .int (nI b))] dX1_isParent_77 rfl (nI_add _ _) (by decide) rfl ?_
                    refine z_goto (pc := 80) (tgt := 31) hC dX1_isParent_80 (by decide) ?_
                    exact ih31 (c + 1) (by omega) (by omega) (by
        first
        | rw [hX, noB_f (by omega) (by unfold badB; rw [h45]; rfl)]
        | rw [hX, noB_f (by omega) (by unfold badB; rw [h45, h54]; rfl)]
        | rw [hX, noB_f (by omega) (by unfold badB; rw [h45, h54, h63]; rfl)]
        | rw [hX, noB_f (by omega) (by unfold badB; rw [h45, h54, h63, h72]; rfl)])
                  · refine z_aload_n (pc := 66) hC 1 dX1_isParent_66 rfl ?_
                    refine z_iload_n (pc := 67) hC 0 dX1_isParent_67 rfl ?_
                    refine z_iload_n (pc := 68) hC 3 dX1_isParent_68 rfl ?_
                    refine z_callV_I (pc := 69) (y := yX1_areSame) (wy := wsX1_areSame) (rm := { frames := 2, cells := 0, slots := 0, locals := 43 }) (As := [.int (nI c), .int (nI b)]) (rest := []) (na := 2) (C := RX1) (T := TX1) (NF := 8) (ci := 2) (wc := [(q 6, .inr (2, [.ref (q 7), .ref (q 8), .ref (q 9), .ref (q 10), .int (nI n), .int fc, .int rc, .int ga])), (q 8, .inl (cI, 168, .inl N0))]) (wc2 := [(q 6, .inr (2, [.ref (q 7), .ref (q 8), .ref (q 9), .ref (q 10), .int (nI n), .int fc, .int rc, .int ga])), (q 8, .inl (cI, 168, .inl N0))]) hC hRm hDis hLis 0 rfl rfl gX1_isParent_X1_areSame ⟨rfl, by decide +kernel, by decide +kernel⟩ rfl ⟨by decide, by decide⟩ ⟨by decide, by decide⟩ rfl (Nat.le_of_ble_eq_true rfl) (by decide +kernel) (c_X1_areSame _ _ cI cJ cZ (q) (N0) (n) (fc) (rc) (ga) (c) (b) (by omega) (by omega)) [0, 1] [] [0, 1] [] rfl (by decide) rfl (by decide) (by decide) [(q 6, .inr (2, [.ref (q 7), .ref (q 8), .ref (q 9), .ref (q 10), .int (nI n), .int fc, .int rc, .int ga])), (q 8, .inl (cI, 168, .inl N0))] rfl (by decide) rfl dX1_isParent_69 ?_
                    refine z_bif_ne (pc := 72) (tgt := 77) hC dX1_isParent_72 (by decide) (fun h72 => ?_) (fun h72 => ?_)
                    · refine z_iinc (pc := 77) (q := 0) (x := (nI c)) (v := (nI (c + 1))) hC hNL [(3, .int (nI (c + 1))), (0, .ref (q 6)), (1, .int (nI a)), (2, .int (nI b))] dX1_isParent_77 rfl (nI_add _ _) (by decide) rfl ?_
                      refine z_goto (pc := 80) (tgt := 31) hC dX1_isParent_80 (by decide) ?_
                      exact ih31 (c + 1) (by omega) (by omega) (by
        first
        | rw [hX, noB_f (by omega) (by unfold badB; rw [h45]; rfl)]
        | rw [hX, noB_f (by omega) (by unfold badB; rw [h45, h54]; rfl)]
        | rw [hX, noB_f (by omega) (by unfold badB; rw [h45, h54, h63]; rfl)]
        | rw [hX, noB_f (by omega) (by unfold badB; rw [h45, h54, h63, h72]; rfl)])
                    · refine z_iconst (pc := 75) (v := (nI 0)) hC dX1_isParent_75 (by decide +kernel) ?_
                      exact z_iret (pc := 76) hC hQ hRT (by decide +kernel) (bI_f (by rw [hX, noB_t (by omega) (by unfold badB; rw [h45, h54, h63, h72]; rfl)])) (rfl) dX1_isParent_76
        exact L31 (n + 1) (0) (by omega) (by omega) (by unfold parB; rw [h6, h15, h24]; simp)
      · refine z_iconst (pc := 27) (v := (nI 0)) hC dX1_isParent_27 (by decide +kernel) ?_
        exact z_iret (pc := 28) hC hQ hRT (by decide +kernel) (by first | exact bI_f (by unfold parB; rw [h6]; rfl) | exact bI_f (by unfold parB; rw [h6, h15]; rfl) | exact bI_f (by unfold parB; rw [h6, h15, decide_eq_false h24]; rfl)) (rfl) dX1_isParent_28

def poF (N0 : Nat → Int32) (n a : Nat) (i : Int32) : Nat → Nat → Nat → Int32
  | 0, _, _ => (-1)
  | f + 1, b, m => if parB N0 n a b = true then (if nI m = i then nI b else poF N0 n a i f (b + 1) (m + 1)) else poF N0 n a i f (b + 1) m
def parF (N0 : Nat → Int32) (n a : Nat) (i : Int32) : Int32 := if inB (nI a) (N0 1) = true then (-1) else poF N0 n a i n 0 0
section POF
variable {N0 : Nat → Int32} {n a : Nat} {i : Int32} {b m : Nat}
theorem poF_h (hb : b < n) (h : parB N0 n a b = true) (h2 : nI m = i) : poF N0 n a i (n - b) b m = nI b := by
  obtain ⟨f, hf⟩ : ∃ f, n - b = f + 1 := ⟨n - b - 1, by omega⟩
  rw [hf]
  unfold poF
  rw [if_pos h, if_pos h2]
theorem poF_t (hb : b < n) (h : parB N0 n a b = true) (h2 : ¬ nI m = i) : poF N0 n a i (n - b) b m = poF N0 n a i (n - (b + 1)) (b + 1) (m + 1) := by
  obtain ⟨f, hf⟩ : ∃ f, n - b = f + 1 := ⟨n - b - 1, by omega⟩
  rw [hf, show n - (b + 1) = f by omega]
  conv => lhs; unfold poF
  rw [if_pos h, if_neg h2]
theorem poF_f (hb : b < n) (h : parB N0 n a b = false) : poF N0 n a i (n - b) b m = poF N0 n a i (n - (b + 1)) (b + 1) m := by
  obtain ⟨f, hf⟩ : ∃ f, n - b = f + 1 := ⟨n - b - 1, by omega⟩
  rw [hf, show n - (b + 1) = f by omega]
  exact if_neg (by rw [h]; decide)
theorem poF_e (hb : n ≤ b) : poF N0 n a i (n - b) b m = (-1) := by rw [show n - b = 0 by omega]; rfl
theorem parF_t (h : inB (nI a) (N0 1) = true) : parF N0 n a i = (-1) := if_pos h
theorem parF_f (h : inB (nI a) (N0 1) = false) : parF N0 n a i = poF N0 n a i n 0 0 := if_neg (by rw [h]; decide)
end POF

set_option maxRecDepth 100000 in
set_option maxHeartbeats 4000000 in
theorem c_X1_parentOf (l : Launch) (D : va_G) (cI cJ cZ : ClassId) (q : Nat → Nat) (N0 : Nat → Int32) (n : Nat) (fc : Int32) (rc : Int32) (ga : Int32) (a : Nat) (i : Int32) (hn : n ≤ 24) (ha : a < 168) : MI l yX1_parentOf wsX1_parentOf { frames := 5, cells := 0, slots := 0, locals := 110 } D (tyL cI cJ cZ) [.ref (q 6), .int (nI a), .int i] [(q 6, .inr (2, [.ref (q 7), .ref (q 8), .ref (q 9), .ref (q 10), .int (nI n), .int fc, .int rc, .int ga])), (q 8, .inl (cI, 168, .inl N0))] [(q 6, .inr (2, [.ref (q 7), .ref (q 8), .ref (q 9), .ref (q 10), .int (nI n), .int fc, .int rc, .int ga])), (q 8, .inl (cI, 168, .inl N0))] (parF N0 n a i) := by
  refine metI_of (cc := cX1_parentOf) (maxL := 5) (ret := (some .int)) (by decide +kernel) rfl (Nat.le_of_ble_eq_true rfl) ?_
  intro K hC hRm hNL hDis hLis hRT hIni hQ
  have hinX1 : ∀ w ∈ wsX10, w ∈ wsX1_parentOf := by decide +kernel
  refine z_aload_n (pc := 0) hC 0 dX1_parentOf_0 rfl ?_
  refine z_iload_n (pc := 1) hC 1 dX1_parentOf_1 rfl ?_
  refine z_iconst (pc := 2) (v := (nI 1)) hC dX1_parentOf_2 (by decide +kernel) ?_
  refine z_callV_I (pc := 3) (y := yX1_has) (wy := wsX1_has) (rm := { frames := 1, cells := 0, slots := 0, locals := 21 }) (As := [.int (nI a), .int (nI 1)]) (rest := []) (na := 2) (C := RX1) (T := TX1) (NF := 8) (ci := 2) (wc := [(q 6, .inr (2, [.ref (q 7), .ref (q 8), .ref (q 9), .ref (q 10), .int (nI n), .int fc, .int rc, .int ga])), (q 8, .inl (cI, 168, .inl N0))]) (wc2 := [(q 6, .inr (2, [.ref (q 7), .ref (q 8), .ref (q 9), .ref (q 10), .int (nI n), .int fc, .int rc, .int ga])), (q 8, .inl (cI, 168, .inl N0))]) hC hRm hDis hLis 0 rfl rfl gX1_parentOf_X1_has ⟨rfl, by decide +kernel, by decide +kernel⟩ rfl ⟨by decide, by decide⟩ ⟨by decide, by decide⟩ rfl (Nat.le_of_ble_eq_true rfl) (by decide +kernel) (c_X1_has _ _ cI cJ cZ (q) (N0) (n) (fc) (rc) (ga) (nI a) (1) (by decide)) [0, 1] [] [0, 1] [] rfl (by decide) rfl (by decide) (by decide) [(q 6, .inr (2, [.ref (q 7), .ref (q 8), .ref (q 9), .ref (q 10), .int (nI n), .int fc, .int rc, .int ga])), (q 8, .inl (cI, 168, .inl N0))] rfl (by decide) rfl dX1_parentOf_3 ?_
  refine z_bif_eq (pc := 6) (tgt := 11) hC dX1_parentOf_6 (by decide) (fun h6 => ?_) (fun h6 => ?_)
  · refine z_iconst (pc := 11) (v := (nI 0)) hC dX1_parentOf_11 (by decide +kernel) ?_
    refine z_istore_n (pc := 12) hC hNL [(3, .int (nI 0)), (0, .ref (q 6)), (1, .int (nI a)), (2, .int i)] dX1_parentOf_12 (by decide) rfl ?_
    refine z_iconst (pc := 13) (v := (nI 0)) hC dX1_parentOf_13 (by decide +kernel) ?_
    refine z_istore (pc := 14) hC hNL [(4, .int (nI 0)), (3, .int (nI 0)), (0, .ref (q 6)), (1, .int (nI a)), (2, .int i)] dX1_parentOf_14 (by decide) rfl ?_
    have L16 : ∀ (fu : Nat) (b : Nat) (m0 : Nat) (hi : b ≤ n) (hf : n + 1 ≤ b + fu) (hX : parF N0 n a i = poF N0 n a i (n - b) b m0), Z K 0 0 [(q 6, .inr (2, [.ref (q 7), .ref (q 8), .ref (q 9), .ref (q 10), .int (nI n), .int fc, .int rc, .int ga])), (q 8, .inl (cI, 168, .inl N0))] [(4, .int (nI b)), (3, .int (nI m0)), (0, .ref (q 6)), (1, .int (nI a)), (2, .int i)] 16 [] := by
      intro fu
      induction fu with
      | zero =>
        intro b m0 hi hf hX
        exact absurd trivial (by omega)
      | succ fu ih16 =>
        intro b m0 hi hf hX
        refine z_iload (pc := 16) hC 0 dX1_parentOf_16 rfl ?_
        refine z_aload_n (pc := 18) hC 2 dX1_parentOf_18 rfl ?_
        refine z_get (pc := 19) (C := RX1) (T := TX1) (N := 8) hC hinX1 0 rfl rfl 4 (by decide) (by decide +kernel) rfl dX1_parentOf_19 ?_
        refine z_ncmp_ge (pc := 22) (tgt := 52) hC dX1_parentOf_22 (by decide) (by omega) (by omega) (fun h22 => ?_) (fun h22 => ?_)
        · refine z_iconst (pc := 52) (v := (-1)) hC dX1_parentOf_52 (by decide +kernel) ?_
          exact z_iret (pc := 53) hC hQ hRT (rfl) (by rw [hX, poF_e (by omega)]) (rfl) dX1_parentOf_53
        · refine z_aload_n (pc := 25) hC 2 dX1_parentOf_25 rfl ?_
          refine z_iload_n (pc := 26) hC 3 dX1_parentOf_26 rfl ?_
          refine z_iload (pc := 27) hC 0 dX1_parentOf_27 rfl ?_
          refine z_callV_I (pc := 29) (y := yX1_isParent) (wy := wsX1_isParent) (rm := { frames := 4, cells := 0, slots := 0, locals := 87 }) (As := [.int (nI a), .int (nI b)]) (rest := []) (na := 2) (C := RX1) (T := TX1) (NF := 8) (ci := 2) (wc := [(q 6, .inr (2, [.ref (q 7), .ref (q 8), .ref (q 9), .ref (q 10), .int (nI n), .int fc, .int rc, .int ga])), (q 8, .inl (cI, 168, .inl N0))]) (wc2 := [(q 6, .inr (2, [.ref (q 7), .ref (q 8), .ref (q 9), .ref (q 10), .int (nI n), .int fc, .int rc, .int ga])), (q 8, .inl (cI, 168, .inl N0))]) hC hRm hDis hLis 0 rfl rfl gX1_parentOf_X1_isParent ⟨rfl, by decide +kernel, by decide +kernel⟩ rfl ⟨by decide, by decide⟩ ⟨by decide, by decide⟩ rfl (Nat.le_of_ble_eq_true rfl) (by decide +kernel) (c_X1_isParent _ _ cI cJ cZ (q) (N0) (n) (fc) (rc) (ga) (a) (b) (by omega) (by omega) (by omega)) [0, 1] [] [0, 1] [] rfl (by decide) rfl (by decide) (by decide) [(q 6, .inr (2, [.ref (q 7), .ref (q 8), .ref (q 9), .ref (q 10), .int (nI n), .int fc, .int rc, .int ga])), (q 8, .inl (cI, 168, .inl N0))] rfl (by decide) rfl dX1_parentOf_29 ?_
          refine z_bif_eq (pc := 32) (tgt := 46) hC dX1_parentOf_32 (by decide) (fun h32 => ?_) (fun h32 => ?_)
          · refine z_iinc (pc := 46) (q := 0) (x := (nI b)) (v := (nI (b + 1))) hC hNL [(4, .int (nI (b + 1))), (3, .int (nI m0)), (0, .ref (q 6)), (1, .int (nI a)), (2, .int i)] dX1_parentOf_46 rfl (nI_add _ _) (by decide) rfl ?_
            refine z_goto (pc := 49) (tgt := 16) hC dX1_parentOf_49 (by decide) ?_
            exact ih16 (b + 1) (m0) (by omega) (by omega) (by first | rw [hX, poF_f (by omega) h32] | rw [hX, poF_t (by omega) h32 h37])
          · refine z_iload_n (pc := 35) hC 1 dX1_parentOf_35 rfl ?_
            refine z_iload_n (pc := 36) hC 4 dX1_parentOf_36 rfl ?_
            refine z_icmp_ne (pc := 37) (tgt := 43) hC dX1_parentOf_37 (by decide) (fun h37 => ?_) (fun h37 => ?_)
            · refine z_iinc (pc := 43) (q := 1) (x := (nI m0)) (v := (nI (m0 + 1))) hC hNL [(3, .int (nI (m0 + 1))), (4, .int (nI b)), (0, .ref (q 6)), (1, .int (nI a)), (2, .int i)] dX1_parentOf_43 rfl (nI_add _ _) (by decide) rfl ?_
              refine z_iinc (pc := 46) (q := 1) (x := (nI b)) (v := (nI (b + 1))) hC hNL [(4, .int (nI (b + 1))), (3, .int (nI (m0 + 1))), (0, .ref (q 6)), (1, .int (nI a)), (2, .int i)] dX1_parentOf_46 rfl (nI_add _ _) (by decide) rfl ?_
              refine z_goto (pc := 49) (tgt := 16) hC dX1_parentOf_49 (by decide) ?_
              exact ih16 (b + 1) (m0 + 1) (by omega) (by omega) (by first | rw [hX, poF_f (by omega) h32] | rw [hX, poF_t (by omega) h32 h37])
            · refine z_iload (pc := 40) hC 0 dX1_parentOf_40 rfl ?_
              exact z_iret (pc := 42) hC hQ hRT (rfl) (by rw [hX, poF_h (by omega) h32 h37]) (rfl) dX1_parentOf_42
    exact L16 (n + 1) (0) (0) (by omega) (by omega) (parF_f h6)
  · refine z_iconst (pc := 9) (v := (-1)) hC dX1_parentOf_9 (by decide +kernel) ?_
    exact z_iret (pc := 10) hC hQ hRT (rfl) ((parF_t h6).symm) (rfl) dX1_parentOf_10
