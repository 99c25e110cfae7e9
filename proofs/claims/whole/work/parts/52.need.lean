/-! the order of the facts: sorted by rounds, whole -/
def OrdP (R : Nat → Int32) (P : Nat → Nat → Prop) (o : OS) : Prop :=
  (∀ i, i < o.2 → ∃ z ρ, z < 4032 ∧ P z ρ ∧ o.1 i = nI z ∧ R z = nI ρ) ∧
  (∀ i j, i ≤ j → j < o.2 → R (tn (o.1 i)) ≤ R (tn (o.1 j))) ∧
  (∀ z ρ, z < 4032 → P z ρ → R z = nI ρ → ∃ i, i < o.2 ∧ o.1 i = nI z)
theorem OrdP.congr {R : Nat → Int32} {P Q : Nat → Nat → Prop} {o : OS} (h : OrdP R P o) (hpq : ∀ z ρ, z < 4032 → (P z ρ ↔ Q z ρ)) : OrdP R Q o :=
  ⟨fun i hi => let ⟨z, ρ, h1, h2, h3⟩ := h.1 i hi; ⟨z, ρ, h1, (hpq z ρ h1).mp h2, h3⟩, h.2.1, fun z ρ hz hq => h.2.2 z ρ hz ((hpq z ρ hz).mpr hq)⟩
theorem OrdP.one {R : Nat → Int32} {r : Nat} (hr : r < 2 ^ 31) {o : OS} (h : OrdP R (fun _ ρ => ρ < r) o) : ∀ c, c ≤ 4032 → OrdP R (fun z ρ => ρ < r ∨ (ρ = r ∧ z < c)) (mF1 R r o c)
  | 0, _ => h.congr (fun z ρ _ => ⟨Or.inl, fun q => q.elim id (fun q => absurd q.2 (Nat.not_lt_zero _))⟩)
  | c + 1, hc => by
    obtain ⟨h1, h2, h3⟩ := OrdP.one hr h c (by omega)
    by_cases e : R c = nI r
    · rw [mF1_t e]
      generalize mF1 R r o c = o' at h1 h2 h3
      obtain ⟨f, m⟩ := o'
      have hle : ∀ i, i < m → R (tn (f i)) ≤ nI r := by
        intro i hi
        obtain ⟨z, ρ, q1, q2, q3, q4⟩ := h1 i hi
        have q3 : f i = nI z := q3
        rw [q3, tn_nI (by omega), q4]
        exact nI_le (by omega) hr
      refine ⟨fun i hi => ?_, fun i j hij hj => ?_, fun z ρ hz hP hR => ?_⟩
      · have hi : i < m + 1 := hi
        by_cases ei : i = m
        · refine ⟨c, r, by omega, Or.inr ⟨rfl, by omega⟩, ?_, e⟩
          show upd f m (nI c) i = nI c
          rw [ei, pk_us]
        · obtain ⟨z, ρ, q1, q2, q3, q4⟩ := h1 i (show i < m by omega)
          refine ⟨z, ρ, q1, q2.imp id (fun q => ⟨q.1, by omega⟩), ?_, q4⟩
          show upd f m (nI c) i = nI z
          rw [pk_un ei]
          exact q3
      · have hj : j < m + 1 := hj
        show R (tn (upd f m (nI c) i)) ≤ R (tn (upd f m (nI c) j))
        by_cases ej : j = m
        · rw [ej, pk_us, tn_nI (by omega), e]
          by_cases ei : i = m
          · rw [ei, pk_us, tn_nI (by omega), e]
            exact Int32.le_refl _
          · rw [pk_un ei]
            exact hle i (by omega)
        · rw [pk_un ej, pk_un (show i ≠ m by omega)]
          exact h2 i j hij (show j < m by omega)
      · rcases hP with hP | ⟨hP1, hP2⟩
        · obtain ⟨i, q1, q2⟩ := h3 z ρ hz (Or.inl hP) hR
          have q1 : i < m := q1
          refine ⟨i, Nat.lt_succ_of_lt q1, ?_⟩
          show upd f m (nI c) i = nI z
          rw [pk_un (by omega)]
          exact q2
        · by_cases ez : z = c
          · refine ⟨m, Nat.lt_succ_self m, ?_⟩
            show upd f m (nI c) m = nI z
            rw [pk_us, ez]
          · obtain ⟨i, q1, q2⟩ := h3 z ρ hz (Or.inr ⟨hP1, by omega⟩) hR
            have q1 : i < m := q1
            refine ⟨i, Nat.lt_succ_of_lt q1, ?_⟩
            show upd f m (nI c) i = nI z
            rw [pk_un (by omega)]
            exact q2
    · rw [mF1_f e]
      refine ⟨fun i hi => ?_, h2, fun z ρ hz hP hR => ?_⟩
      · obtain ⟨z, ρ, q1, q2, q3⟩ := h1 i hi
        exact ⟨z, ρ, q1, q2.imp id (fun q => ⟨q.1, by omega⟩), q3⟩
      · rcases hP with hP | ⟨hP1, hP2⟩
        · exact h3 z ρ hz (Or.inl hP) hR
        · by_cases ez : z = c
          · subst ez
            subst hP1
            exact absurd hR e
          · exact h3 z ρ hz (Or.inr ⟨hP1, by omega⟩) hR
theorem OrdP.all {R O : Nat → Int32} : ∀ r, r ≤ 2 ^ 31 → OrdP R (fun _ ρ => ρ < r) (mF R (O, 0) r)
  | 0, _ => ⟨fun i hi => absurd hi (Nat.not_lt_zero i), fun i j _ hj => absurd hj (Nat.not_lt_zero j), fun z ρ _ h => absurd h (Nat.not_lt_zero ρ)⟩
  | r + 1, hr => by
    have h := OrdP.one (show r < 2 ^ 31 by omega) (OrdP.all (R := R) (O := O) r (by omega)) 4032 (Nat.le_refl _)
    exact h.congr (fun z ρ hz => ⟨fun q => by omega, fun q => by omega⟩)
/-! what the class needs -/
section NEED
variable {G : Nat → Int64} {R Fi Se O : Nat → Int32} {fc : Nat}
theorem tkS_iff (hG : ∀ z, z < 4032 → ¬ R z < 0 → fiO (G z) = Fi z ∧ seO (G z) = Se z) (hP : ∀ z, ¬ R z < 0 → pOk R (Fi z) (R z) ∧ pOk R (Se z) (R z)) {Nd : Nat → Int64} {z w : Nat} (hz : z < 4032) (hR : ¬ R z < 0) (hw : w < 4032) :
    isN (tkS G z Nd) w = true ↔ isN Nd w = true ∨ (isN Nd z = true ∧ ((¬ Fi z < 0 ∧ w = tn (Fi z)) ∨ (¬ Se z < 0 ∧ w = tn (Se z)))) := by
  obtain ⟨g1, g2⟩ := hG z hz hR
  obtain ⟨p1, p2⟩ := hP z hR
  have v1 : Fi z = (-1) ∨ ∃ q, q < 4032 ∧ Fi z = nI q := p1.imp id (fun ⟨q, h1, h2, _⟩ => ⟨q, h1, h2⟩)
  have v2 : Se z = (-1) ∨ ∃ q, q < 4032 ∧ Se z = nI q := p2.imp id (fun ⟨q, h1, h2, _⟩ => ⟨q, h1, h2⟩)
  cases hn : isN Nd z with
  | false =>
    rw [tkS_f hn]
    exact ⟨Or.inl, fun h => h.elim id (fun h => absurd h.1 (by decide))⟩
  | true =>
    rw [tkS_t hn, g1, g2, isN_need hw v2, isN_need hw v1]
    exact ⟨fun h => h.elim (fun h => h.elim Or.inl (fun h => Or.inr ⟨rfl, Or.inl h⟩)) (fun h => Or.inr ⟨rfl, Or.inr h⟩), fun h => h.elim (fun h => Or.inl (Or.inl h)) (fun h => h.2.elim (fun h => Or.inl (Or.inr h)) Or.inr)⟩
theorem tkN_mono (hG : ∀ z, z < 4032 → ¬ R z < 0 → fiO (G z) = Fi z ∧ seO (G z) = Se z) (hP : ∀ z, ¬ R z < 0 → pOk R (Fi z) (R z) ∧ pOk R (Se z) (R z)) (hO1 : ∀ i, i < fc → ∃ z, z < 4032 ∧ O i = nI z ∧ ¬ R z < 0) {w : Nat} (hw : w < 4032) : ∀ m (Nd : Nat → Int64), m ≤ fc → isN Nd w = true → isN (tkN G O m Nd) w = true
  | 0, _, _, h => h
  | m + 1, Nd, hm, h => by
    obtain ⟨z, h1, h2, h3⟩ := hO1 m (by omega)
    rw [tkN_s, h2, tn_nI (by omega)]
    exact tkN_mono hG hP hO1 hw m _ (by omega) ((tkS_iff hG hP h1 h3 hw).mpr (Or.inl h))
theorem tkN_snd (hG : ∀ z, z < 4032 → ¬ R z < 0 → fiO (G z) = Fi z ∧ seO (G z) = Se z) (hP : ∀ z, ¬ R z < 0 → pOk R (Fi z) (R z) ∧ pOk R (Se z) (R z)) (hO1 : ∀ i, i < fc → ∃ z, z < 4032 ∧ O i = nI z ∧ ¬ R z < 0) {P : Nat → Prop} (hF : ∀ z, P z → ¬ Fi z < 0 → P (tn (Fi z))) (hS : ∀ z, P z → ¬ Se z < 0 → P (tn (Se z))) : ∀ m (Nd : Nat → Int64), m ≤ fc → (∀ w, w < 4032 → isN Nd w = true → P w) → ∀ w, w < 4032 → isN (tkN G O m Nd) w = true → P w
  | 0, _, _, h => h
  | m + 1, Nd, hm, h => by
    obtain ⟨z, h1, h2, h3⟩ := hO1 m (by omega)
    rw [tkN_s, h2, tn_nI (by omega)]
    refine tkN_snd hG hP hO1 hF hS m _ (by omega) (fun w hw q => ?_)
    rcases (tkS_iff hG hP h1 h3 hw).mp q with q | ⟨q, q1 | q1⟩
    · exact h w hw q
    · rw [q1.2]; exact hF z (h z h1 q) q1.1
    · rw [q1.2]; exact hS z (h z h1 q) q1.1
def ClN (Fi Se O : Nat → Int32) (fc m : Nat) (Nd : Nat → Int64) : Prop := ∀ i, m ≤ i → i < fc → isN Nd (tn (O i)) = true → (¬ Fi (tn (O i)) < 0 → isN Nd (tn (Fi (tn (O i)))) = true) ∧ (¬ Se (tn (O i)) < 0 → isN Nd (tn (Se (tn (O i)))) = true)
theorem tkN_cl (hG : ∀ z, z < 4032 → ¬ R z < 0 → fiO (G z) = Fi z ∧ seO (G z) = Se z) (hP : ∀ z, ¬ R z < 0 → pOk R (Fi z) (R z) ∧ pOk R (Se z) (R z)) (hO1 : ∀ i, i < fc → ∃ z, z < 4032 ∧ O i = nI z ∧ ¬ R z < 0) (hO2 : ∀ i j, i ≤ j → j < fc → R (tn (O i)) ≤ R (tn (O j))) : ∀ m (Nd : Nat → Int64), m ≤ fc → ClN Fi Se O fc m Nd → ClN Fi Se O fc 0 (tkN G O m Nd)
  | 0, _, _, h => h
  | m + 1, Nd, hm, h => by
    obtain ⟨z, h1, h2, h3⟩ := hO1 m (by omega)
    rw [tkN_s]
    refine tkN_cl hG hP hO1 hO2 m _ (by omega) (fun i hi1 hi2 hN => ?_)
    obtain ⟨zi, k1, k2, k3⟩ := hO1 i hi2
    rw [k2, tn_nI (by omega)] at hN ⊢
    have hsort : R z ≤ R zi := by
      have := hO2 m i hi1 hi2
      rwa [h2, k2, tn_nI (by omega), tn_nI (by omega)] at this
    rw [h2, tn_nI (by omega)] at hN ⊢
    obtain ⟨p1, p2⟩ := hP z h3
    have low : ∀ v, pOk R v (R z) → ¬ v < 0 → zi ≠ tn v := by
      intro v hv hv0 e
      rcases hv with hv | ⟨q, q1, q2, q3, q4⟩
      · exact hv0 (by rw [hv]; decide)
      · rw [q2, tn_nI (by omega)] at e
        rw [e] at hsort
        exact absurd q4 (Int32.not_lt.mpr hsort)
    have hold : isN Nd zi = true := by
      rcases (tkS_iff hG hP h1 h3 k1).mp hN with q | ⟨q, q1 | q1⟩
      · exact q
      · exact absurd q1.2 (low _ p1 q1.1)
      · exact absurd q1.2 (low _ p2 q1.1)
    have vz : ∀ v, pOk R v (R zi) → ¬ v < 0 → tn v < 4032 := by
      intro v hv hv0
      rcases hv with hv | ⟨q, q1, q2, -⟩
      · exact absurd (by rw [hv]; decide) hv0
      · rw [q2, tn_nI (by omega)]; exact q1
    obtain ⟨r1, r2⟩ := hP zi k3
    by_cases em : i = m
    · have ez : zi = z := by
        have h9 : nI zi = nI z := by rw [← k2, ← h2, em]
        exact (nI_eq (by omega) (by omega)).mp h9
      subst ez
      exact ⟨fun q => (tkS_iff hG hP h1 h3 (vz _ r1 q)).mpr (Or.inr ⟨hold, Or.inl ⟨q, rfl⟩⟩), fun q => (tkS_iff hG hP h1 h3 (vz _ r2 q)).mpr (Or.inr ⟨hold, Or.inr ⟨q, rfl⟩⟩)⟩
    · have hc := h i (by omega) hi2 (by rw [k2, tn_nI (by omega)]; exact hold)
      rw [k2, tn_nI (by omega)] at hc
      exact ⟨fun q => (tkS_iff hG hP h1 h3 (vz _ r1 q)).mpr (Or.inl (hc.1 q)), fun q => (tkS_iff hG hP h1 h3 (vz _ r2 q)).mpr (Or.inl (hc.2 q))⟩
theorem need_iff (hG : ∀ z, z < 4032 → ¬ R z < 0 → fiO (G z) = Fi z ∧ seO (G z) = Se z) (hP : ∀ z, ¬ R z < 0 → pOk R (Fi z) (R z) ∧ pOk R (Se z) (R z)) (hO1 : ∀ i, i < fc → ∃ z, z < 4032 ∧ O i = nI z ∧ ¬ R z < 0) (hO2 : ∀ i j, i ≤ j → j < fc → R (tn (O i)) ≤ R (tn (O j))) (hO3 : ∀ z, z < 4032 → ¬ R z < 0 → ∃ i, i < fc ∧ O i = nI z) {j z : Nat} (hj : j < 4032) (hRj : ¬ R j < 0) (hz : z < 4032) : isN (tkN G O fc (needF (fun _ => 0) (nI j))) z = true ↔ Rch Fi Se j z := by
  have h0 : ∀ w, w < 4032 → (isN (needF (fun _ => 0) (nI j)) w = true ↔ w = j) := fun w hw => by
    rw [isN_need hw (Or.inr ⟨j, hj, rfl⟩), isN_0 hw, tn_nI (by omega)]
    exact ⟨fun h => h.elim (fun h => absurd h (by decide)) (fun h => h.2), fun h => Or.inr ⟨nI_pos (by omega), h⟩⟩
  constructor
  · intro h S h1 h2 h3
    exact tkN_snd hG hP hO1 h2 h3 fc _ (Nat.le_refl _) (fun w hw q => by rw [(h0 w hw).mp q]; exact h1) z hz h
  · intro h
    have hcl := tkN_cl hG hP hO1 hO2 fc (needF (fun _ => 0) (nI j)) (Nat.le_refl _) (fun i h1 h2 => absurd h2 (by omega))
    have hS := h (fun z => z < 4032 ∧ ¬ R z < 0 ∧ isN (tkN G O fc (needF (fun _ => 0) (nI j))) z = true) ⟨hj, hRj, tkN_mono hG hP hO1 hj fc _ (Nat.le_refl _) ((h0 j hj).mpr rfl)⟩ (fun z q1 q2 => ?_) (fun z q1 q2 => ?_)
    · exact hS.2.2
    · obtain ⟨i, hi, e⟩ := hO3 z q1.1 q1.2.1
      have hc := hcl i (Nat.zero_le _) hi (by rw [e, tn_nI (by have := q1.1; omega)]; exact q1.2.2)
      rw [e, tn_nI (by have := q1.1; omega)] at hc
      rcases (hP z q1.2.1).1 with hv | ⟨q, k1, k2, k3, -⟩
      · exact absurd (by rw [hv]; decide) q2
      · refine ⟨?_, ?_, hc.1 q2⟩
        · rw [k2, tn_nI (by omega)]; exact k1
        · rw [k2, tn_nI (by omega)]; exact k3
    · obtain ⟨i, hi, e⟩ := hO3 z q1.1 q1.2.1
      have hc := hcl i (Nat.zero_le _) hi (by rw [e, tn_nI (by have := q1.1; omega)]; exact q1.2.2)
      rw [e, tn_nI (by have := q1.1; omega)] at hc
      rcases (hP z q1.2.1).2 with hv | ⟨q, k1, k2, k3, -⟩
      · exact absurd (by rw [hv]; decide) q2
      · refine ⟨?_, ?_, hc.2 q2⟩
        · rw [k2, tn_nI (by omega)]; exact k1
        · rw [k2, tn_nI (by omega)]; exact k3
end NEED
theorem rows_eq {Nd : Nat → Int64} {Wt O Row Rw Prf : Nat → Int32} : ∀ m, (∀ i, i < m → O i = Row i ∧ (isN Nd (tn (O i)) = true ↔ ¬ Wt (tn (Row i)) = 0)) → Oq (tkR Nd O (Rw, 0) m) (mTr Wt Row (Prf, 0) m)
  | 0, _ => ⟨rfl, fun i hi => absurd hi (Nat.not_lt_zero i)⟩
  | m + 1, h => by
    obtain ⟨h1, h2⟩ := rows_eq (Nd := Nd) (Wt := Wt) (O := O) (Row := Row) (Rw := Rw) (Prf := Prf) m (fun i hi => h i (by omega))
    obtain ⟨e, hq⟩ := h m (by omega)
    by_cases hn : isN Nd (tn (O m)) = true
    · rw [tkR_t hn, mTr_n (hq.mp hn)]
      refine ⟨by show _ + 1 = _ + 1; rw [h1], fun i hi => ?_⟩
      have hi : i < (tkR Nd O (Rw, 0) m).2 + 1 := hi
      show upd _ _ _ i = upd _ _ _ i
      rw [← h1, ← e]
      by_cases ei : i = (tkR Nd O (Rw, 0) m).2
      · rw [ei, pk_us, pk_us]
      · rw [pk_un ei, pk_un ei]
        exact h2 i (by omega)
    · have hn2 : isN Nd (tn (O m)) = false := by
        cases hb : isN Nd (tn (O m)) with
        | false => rfl
        | true => exact absurd hb hn
      have hw : Wt (tn (Row m)) = 0 := Classical.byContradiction (fun q => hn (hq.mpr q))
      rw [tkR_f hn2, mTr_e hw]
      exact ⟨h1, h2⟩
/-- what stands in the order, of both sides -/
theorem fin_ord {n : Nat} {O : Nat → Int32} {x : FS} {y : MS × Nat} (h : Fin9 n O x y) (hn : n ≤ 24) : (∀ i, i < x.2.2.1.2 → ∃ z, z < 4032 ∧ x.2.2.1.1 i = nI z ∧ ¬ y.1.1 z < 0) ∧ (∀ i j, i ≤ j → j < x.2.2.1.2 → y.1.1 (tn (x.2.2.1.1 i)) ≤ y.1.1 (tn (x.2.2.1.1 j))) ∧ (∀ z, z < 4032 → ¬ y.1.1 z < 0 → ∃ i, i < x.2.2.1.2 ∧ x.2.2.1.1 i = nI z) := by
  have hfc := fin_code h
  obtain ⟨-, hρ, ⟨hO1, hO2⟩, -, hb⟩ := h
  obtain ⟨a1, a2, a3⟩ := OrdP.all (R := y.1.1) (O := O) y.2 (by omega)
  refine ⟨fun i hi => ?_, fun i j hij hj => ?_, fun z hz hR => ?_⟩
  · obtain ⟨z, ρ, h1, h2, h3, h4⟩ := a1 i (by rw [← hO1]; exact hi)
    exact ⟨z, h1, by rw [hO2 i hi]; exact h3, by rw [h4]; exact nI_pos (by omega)⟩
  · rw [hO2 i (by omega), hO2 j hj]
    exact a2 i j hij (by rw [← hO1]; exact hj)
  · rcases hfc z with ⟨-, -, -, a, c, ha, hc, e, hb9⟩ | ⟨-, h2⟩
    · obtain ⟨ρ, q1, q2⟩ := hρ a c ha hc hb9
      obtain ⟨i, k1, k2⟩ := a3 z ρ hz q1 (by rw [e]; exact q2)
      rw [← hO1] at k1
      exact ⟨i, k1, by rw [hO2 i k1]; exact k2⟩
    · exact absurd (by rw [h2]; decide) hR
theorem trace9 {n : Nat} {x : FS} {s : MSt} {O : Nat → Int32} (h : Fin9 n O x (s.1, s.2.1)) (hn : n ≤ 24) (hs : s.2.2.1 = mF s.1.1 (O, 0) s.2.1) (hPP : PP s.1) (hF : ∀ c, c < 4032 → ¬ s.1.2.2.1 c < 0 → clV 4032 (s.1.2.2.1 c)) (hS : ∀ c, c < 4032 → ¬ s.1.2.2.2.1 c < 0 → clV 4032 (s.1.2.2.2.1 c)) (c : Int32) (Rw Prf : Nat → Int32) : Oq (takeR x.1.2.1 x.2.2.1.1 x.2.2.1.2 c Rw) (mTrR s c Prf) := by
  have hfl := fin_flw h c
  have hfl : flw x.1.2.1 c = mFlw s.1.1 c := hfl
  cases hb : flw x.1.2.1 c with
  | false =>
    rw [takeR_f hb, mTrR_f (by rw [← hfl]; exact hb)]
    exact ⟨rfl, fun i hi => absurd hi (Nat.not_lt_zero i)⟩
  | true =>
    obtain ⟨j, hj, rfl⟩ := flw_of hb
    rw [takeR_t hb, mTrR_t hj (by rw [← hfl]; exact hb)]
    have hRj : ¬ s.1.1 j < 0 := by
      have := (of_decide_eq_true (hfl.symm.trans hb)).2.2
      rwa [tn_nI (by omega)] at this
    obtain ⟨o1, o2, o3⟩ := fin_ord h hn
    have hfc := fin_code h
    have hG : ∀ z, z < 4032 → ¬ s.1.1 z < 0 → fiO (x.1.2.1 z) = s.1.2.2.1 z ∧ seO (x.1.2.1 z) = s.1.2.2.2.1 z := by
      intro z _ hR
      rcases hfc z with ⟨-, -, ⟨-, -, -, t3, t4⟩, -⟩ | ⟨-, h2⟩
      · exact ⟨t3, t4⟩
      · have h2 : s.1.1 z = (-1) := h2
        exact absurd (by rw [h2]; decide) hR
    obtain ⟨hq1, hq2⟩ := h.2.2.1
    have hq1 : x.2.2.1.2 = s.2.2.1.2 := by rw [hs]; exact hq1
    have hq2 : ∀ i, i < x.2.2.1.2 → x.2.2.1.1 i = s.2.2.1.1 i := by rw [hs]; exact hq2
    rw [← hq1]
    refine rows_eq x.2.2.1.2 (fun i hi => ⟨hq2 i hi, ?_⟩)
    obtain ⟨z, h1, h2, h3⟩ := o1 i hi
    rw [← hq2 i hi, h2, tn_nI (by omega), need_iff hG hPP o1 o2 o3 hj hRj h1, want_iff hF hS hj]
