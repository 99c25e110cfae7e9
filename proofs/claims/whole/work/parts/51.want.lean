/-! the rows of a proof: both sides want the same facts -/
def Rch (Fi Se : Nat → Int32) (j z : Nat) : Prop := ∀ S : Nat → Prop, S j → (∀ z, S z → ¬ Fi z < 0 → S (tn (Fi z))) → (∀ z, S z → ¬ Se z < 0 → S (tn (Se z))) → S z
section WANT
variable {Fi Se : Nat → Int32}
theorem mWt_snd {Wt : Nat → Int32} {c : Int32} {z : Nat} (h : ¬ mWt Wt c z = 0) : ¬ Wt z = 0 ∨ (¬ c < 0 ∧ z = tn c) := by
  unfold mWt at h
  split at h
  · exact Or.inl h
  · rename_i hc
    split at h
    · by_cases e : z = tn c
      · exact Or.inr ⟨hc, e⟩
      · rw [pk_un e] at h
        exact Or.inl h
    · exact Or.inl h
theorem mWt_mono {Wt : Nat → Int32} {c : Int32} {z : Nat} (h : ¬ Wt z = 0) : ¬ mWt Wt c z = 0 := by
  unfold mWt
  split
  · exact h
  · split
    · by_cases e : z = tn c
      · rw [e, pk_us]; decide
      · rw [pk_un e]; exact h
    · exact h
theorem mW1_snd {P : Nat → Prop} (hF : ∀ z, P z → ¬ Fi z < 0 → P (tn (Fi z))) {u : WS} (hu : ∀ z, ¬ u.1 z = 0 → P z) : ∀ i z, ¬ (mW1 Fi u i).1 z = 0 → P z
  | 0, z, h => hu z h
  | i + 1, z, h => by
    have ih := mW1_snd hF hu i
    by_cases e : (mW1 Fi u i).1 i = 0
    · rw [mW1_e e] at h
      exact ih z h
    · rw [mW1_n e] at h
      rcases mWt_snd h with h1 | ⟨h1, h2⟩
      · exact ih z h1
      · rw [h2]
        exact hF i (ih i e) h1
theorem mW1_mono {u : WS} {z : Nat} (h : ¬ u.1 z = 0) : ∀ i, ¬ (mW1 Fi u i).1 z = 0
  | 0 => h
  | i + 1 => by
    have ih := mW1_mono h i
    by_cases e : (mW1 Fi u i).1 i = 0
    · rw [mW1_e e]; exact ih
    · rw [mW1_n e]; exact mWt_mono ih
theorem mW1_id {u : WS} : ∀ i, (mW1 Fi u i).2 = false → (mW1 Fi u i).1 = u.1 ∧ u.2 = false ∧ ∀ c, c < i → ¬ u.1 c = 0 → ¬ Fi c < 0 → ¬ u.1 (tn (Fi c)) = 0
  | 0, h => ⟨rfl, h, fun c hc => absurd hc (Nat.not_lt_zero c)⟩
  | i + 1, h => by
    by_cases e : (mW1 Fi u i).1 i = 0
    · rw [mW1_e e] at h ⊢
      obtain ⟨h1, h2, h3⟩ := mW1_id i h
      refine ⟨h1, h2, fun c hc q => ?_⟩
      by_cases ec : c = i
      · subst ec
        rw [h1] at e
        exact absurd e q
      · exact h3 c (by omega) q
    · rw [mW1_n e] at h ⊢
      have hb : mWb (mW1 Fi u i).1 (Fi i) = false ∧ (mW1 Fi u i).2 = false := by
        have h9 : (mWb (mW1 Fi u i).1 (Fi i) || (mW1 Fi u i).2) = false := h
        rwa [Bool.or_eq_false_iff] at h9
      obtain ⟨h1, h2, h3⟩ := mW1_id i hb.2
      have hb2 := of_decide_eq_false hb.1
      have hid : mWt (mW1 Fi u i).1 (Fi i) = (mW1 Fi u i).1 := by
        unfold mWt
        split
        · rfl
        · rename_i hc
          rw [if_neg (fun q => hb2 ⟨hc, q⟩)]
      refine ⟨by show mWt _ _ = _; rw [hid, h1], h2, fun c hc q q2 => ?_⟩
      by_cases ec : c = i
      · subst ec
        intro q3
        exact hb2 ⟨q2, by rw [h1]; exact q3⟩
      · exact h3 c (by omega) q q2
def ClW (Fi Se Wt : Nat → Int32) : Prop := ∀ c, c < 4032 → ¬ Wt c = 0 → (¬ Fi c < 0 → ¬ Wt (tn (Fi c)) = 0) ∧ (¬ Se c < 0 → ¬ Wt (tn (Se c)) = 0)
theorem mWp_id {Wt : Nat → Int32} (h : (mWp Fi Se Wt).2 = false) : (mWp Fi Se Wt).1 = Wt ∧ ClW Fi Se Wt := by
  obtain ⟨a1, a2, a3⟩ := mW1_id 4032 h
  obtain ⟨b1, b2, b3⟩ := mW1_id 4032 a2
  have e0 : (mWp Fi Se Wt).1 = Wt := a1.trans b1
  rw [b1] at a3
  exact ⟨e0, fun c hc q => ⟨b3 c hc q, a3 c hc q⟩⟩
theorem mWl_cl (hF : ∀ c, c < 4032 → ¬ Fi c < 0 → clV 4032 (Fi c)) (hS : ∀ c, c < 4032 → ¬ Se c < 0 → clV 4032 (Se c)) : ∀ f (u : WS), (u.2 = false → ClW Fi Se u.1) → (u.2 = true → cW u.1 4032 < f) → ClW Fi Se (mWl Fi Se f u)
  | 0, u, h1, h2 => by
    cases hu : u.2 with
    | false => exact h1 hu
    | true => exact absurd (h2 hu) (Nat.not_lt_zero _)
  | f + 1, u, h1, h2 => by
    cases hu : u.2 with
    | false => rw [mWl_f hu]; exact h1 hu
    | true =>
      rw [mWl_t hu]
      refine mWl_cl hF hS f _ (fun h => ?_) (fun h => ?_)
      · obtain ⟨e1, e2⟩ := mWp_id h
        rw [e1]
        exact e2
      · have := mWp_dec hF hS h
        have := h2 hu
        omega
theorem mWq_mono {Wt : Nat → Int32} {z : Nat} (h : ¬ Wt z = 0) (N : Nat) : ¬ (mW1 Se (mW1 Fi (Wt, false) N) N).1 z = 0 := mW1_mono (mW1_mono (u := (Wt, false)) h N) N
theorem mWq_snd {P : Nat → Prop} (hF : ∀ z, P z → ¬ Fi z < 0 → P (tn (Fi z))) (hS : ∀ z, P z → ¬ Se z < 0 → P (tn (Se z))) {Wt : Nat → Int32} (h : ∀ z, ¬ Wt z = 0 → P z) (N z : Nat) (q : ¬ (mW1 Se (mW1 Fi (Wt, false) N) N).1 z = 0) : P z := mW1_snd hS (fun z q => mW1_snd (u := (Wt, false)) hF h N z q) N z q
theorem mWp_ex {Wt : Nat → Int32} : ∃ N, mWp Fi Se Wt = mW1 Se (mW1 Fi (Wt, false) N) N := ⟨4032, rfl⟩
theorem mWp_mono {Wt : Nat → Int32} {z : Nat} (h : ¬ Wt z = 0) : ¬ (mWp Fi Se Wt).1 z = 0 := by
  obtain ⟨N, e⟩ := mWp_ex (Fi := Fi) (Se := Se) (Wt := Wt)
  rw [e]
  exact mWq_mono h N
theorem mWp_snd {P : Nat → Prop} (hF : ∀ z, P z → ¬ Fi z < 0 → P (tn (Fi z))) (hS : ∀ z, P z → ¬ Se z < 0 → P (tn (Se z))) {Wt : Nat → Int32} (h : ∀ z, ¬ Wt z = 0 → P z) (z : Nat) (q : ¬ (mWp Fi Se Wt).1 z = 0) : P z := by
  obtain ⟨N, e⟩ := mWp_ex (Fi := Fi) (Se := Se) (Wt := Wt)
  rw [e] at q
  exact mWq_snd hF hS h N z q
theorem mWl_mono {z : Nat} : ∀ f (u : WS), ¬ u.1 z = 0 → ¬ mWl Fi Se f u z = 0
  | 0, _, h => h
  | f + 1, u, h => by
    cases hu : u.2 with
    | false => rw [mWl_f hu]; exact h
    | true =>
      rw [mWl_t hu]
      exact mWl_mono f _ (mWp_mono h)
theorem mWl_snd {P : Nat → Prop} (hF : ∀ z, P z → ¬ Fi z < 0 → P (tn (Fi z))) (hS : ∀ z, P z → ¬ Se z < 0 → P (tn (Se z))) : ∀ f (u : WS), (∀ z, ¬ u.1 z = 0 → P z) → ∀ z, ¬ mWl Fi Se f u z = 0 → P z
  | 0, _, h => h
  | f + 1, u, h => by
    cases hu : u.2 with
    | false => rw [mWl_f hu]; exact h
    | true =>
      rw [mWl_t hu]
      exact mWl_snd hF hS f _ (mWp_snd hF hS h)
theorem want_iff {s : MSt} (hF : ∀ c, c < 4032 → ¬ s.1.2.2.1 c < 0 → clV 4032 (s.1.2.2.1 c)) (hS : ∀ c, c < 4032 → ¬ s.1.2.2.2.1 c < 0 → clV 4032 (s.1.2.2.2.1 c)) {j z : Nat} (hj : j < 4032) : ¬ mWf s j z = 0 ↔ Rch s.1.2.2.1 s.1.2.2.2.1 j z := by
  constructor
  · intro h S h1 h2 h3
    exact mWl_snd h2 h3 5000 _ (fun z q => by
      have q : ¬ (if z = j then nI 1 else nI 0) = 0 := q
      by_cases e : z = j
      · rw [e]; exact h1
      · rw [if_neg e] at q; exact absurd rfl q) z h
  · intro h
    have hcl := mWl_cl hF hS 5000 (fun c => if c = j then nI 1 else nI 0, true) (fun q => absurd (show true = false from q) (by decide)) (fun _ => by
      have := cW_le (fun c => if c = j then nI 1 else nI 0) 4032
      show cW (fun c => if c = j then nI 1 else nI 0) 4032 < 5000
      omega)
    refine (h (fun z => z < 4032 ∧ ¬ mWf s j z = 0) ⟨hj, ?_⟩ (fun z q1 q2 => ?_) (fun z q1 q2 => ?_)).2
    · exact mWl_mono 5000 _ (by show ¬ (if j = j then nI 1 else nI 0) = 0; rw [if_pos rfl]; decide)
    · obtain ⟨i, hi, e⟩ := hF z q1.1 q2
      exact ⟨by rw [e, tn_nI (by omega)]; exact hi, (hcl z q1.1 q1.2).1 q2⟩
    · obtain ⟨i, hi, e⟩ := hS z q1.1 q2
      exact ⟨by rw [e, tn_nI (by omega)]; exact hi, (hcl z q1.1 q1.2).2 q2⟩
end WANT
/-! the bits of need -/
theorem ndS_lN (j : Nat) (hj : j < 4032) : ndS j = lN (j % 64) := by
  unfold ndS
  have h1 : nI j &&& nI 63 = nI (j % 64) := by
    have : j % 64 < 64 := Nat.mod_lt _ (by decide)
    apply Int32.toBitVec_inj.mp
    rw [Int32.toBitVec_and]
    apply BitVec.eq_of_toNat_eq
    rw [BitVec.toNat_and]
    show (BitVec.ofNat 32 j).toNat &&& (BitVec.ofNat 32 63).toNat = (BitVec.ofNat 32 (j % 64)).toNat
    rw [BitVec.toNat_ofNat, BitVec.toNat_ofNat, BitVec.toNat_ofNat, Nat.mod_eq_of_lt (show j < 2 ^ 32 by omega), Nat.mod_eq_of_lt (show 63 < 2 ^ 32 by decide), Nat.mod_eq_of_lt (show j % 64 < 2 ^ 32 by omega)]
    exact Nat.and_two_pow_sub_one_eq_mod j 6
  rw [h1]
  exact wb_c _ (Nat.mod_lt _ (by decide))
def b64 (x : Int64) (i : Nat) : Bool := x.toBitVec.getLsbD i
theorem b64_a1 (x : Int64) : x &&& 1 = 0 ↔ b64 x 0 = false := by
  constructor
  · intro h
    have h1 : b64 (x &&& 1) 0 = false := by rw [h]; rfl
    unfold b64 at h1 ⊢
    rw [Int64.toBitVec_and, BitVec.getLsbD_and] at h1
    simpa using h1
  · intro h
    apply Int64.toBitVec_inj.mp
    apply BitVec.eq_of_getLsbD_eq
    intro i hi
    rw [Int64.toBitVec_and, BitVec.getLsbD_and]
    by_cases e : i = 0
    · subst e
      unfold b64 at h
      rw [h]
      rfl
    · have : (1 : Int64).toBitVec.getLsbD i = false := by
        show (1#64).getLsbD i = false
        rw [BitVec.getLsbD_one]
        simp [e]
      rw [this, Bool.and_false]
      show false = (0#64).getLsbD i
      simp
theorem b64_shr (x : Int64) {k : Nat} (hk : k < 64) : b64 (x >>> lN k) 0 = b64 x k := by
  unfold b64
  show (x.toBitVec.sshiftRight' ((lN k).toBitVec.smod 64)).getLsbD 0 = _
  rw [wb_tb, wb_sm k hk]
  show (x.toBitVec.sshiftRight (BitVec.ofNat 64 k).toNat).getLsbD 0 = _
  rw [BitVec.toNat_ofNat, Nat.mod_eq_of_lt (by omega), BitVec.getLsbD_sshiftRight]
  simp [hk]
theorem b64_or (x : Int64) {k i : Nat} (hk : k < 64) (hi : i < 64) : b64 (x ||| (1 <<< lN k)) i = (b64 x i || decide (i = k)) := by
  unfold b64
  rw [Int64.toBitVec_or, BitVec.getLsbD_or]
  congr 1
  show ((1#64) <<< ((lN k).toBitVec.smod 64)).getLsbD i = _
  rw [wb_tb, wb_sm k hk]
  show ((1#64) <<< (BitVec.ofNat 64 k).toNat).getLsbD i = _
  rw [BitVec.toNat_ofNat, Nat.mod_eq_of_lt (by omega), BitVec.getLsbD_shiftLeft, BitVec.getLsbD_one]
  by_cases e : i = k
  · subst e; simp [hi]
  · by_cases h : i < k
    · simp [h, e]
    · simp [e]
      omega
theorem isN_b {Nd : Nat → Int64} {j : Nat} (hj : j < 4032) : isN Nd j = b64 (Nd (j / 64)) (j % 64) := by
  unfold isN
  rw [ndS_lN j hj]
  have h := b64_a1 (Nd (j / 2 ^ 6) >>> lN (j % 64))
  rw [b64_shr _ (Nat.mod_lt _ (by decide))] at h
  cases hb : b64 (Nd (j / 64)) (j % 64) with
  | true => exact decide_eq_true (fun q => by have := h.mp q; rw [show j / 2 ^ 6 = j / 64 from rfl, hb] at this; cases this)
  | false => exact decide_eq_false (fun q => q (h.mpr hb))
theorem isN_nd {Nd : Nat → Int64} {j z : Nat} (hj : j < 4032) (hz : z < 4032) : isN (ndF Nd j) z = (isN Nd z || decide (z = j)) := by
  rw [isN_b hz, isN_b hz]
  unfold ndF
  rw [ndS_lN j hj]
  show b64 (vp_updL Nd (j / 64) (Nd (j / 64) ||| 1 <<< lN (j % 64)) (z / 64)) (z % 64) = _
  have hz64 : z % 64 < 64 := Nat.mod_lt _ (by decide)
  have hj64 : j % 64 < 64 := Nat.mod_lt _ (by decide)
  unfold vp_updL
  by_cases e : z / 64 = j / 64
  · rw [if_pos e, b64_or _ hj64 hz64, e]
    congr 1
    apply decide_eq_decide.mpr
    omega
  · rw [if_neg e, show decide (z = j) = false from decide_eq_false (fun q => e (by rw [q])), Bool.or_false]
theorem isN_need {Nd : Nat → Int64} {c : Int32} {z : Nat} (hz : z < 4032) (hc : c = (-1) ∨ ∃ q, q < 4032 ∧ c = nI q) : isN (needF Nd c) z = true ↔ isN Nd z = true ∨ (¬ c < 0 ∧ z = tn c) := by
  rcases hc with e | ⟨q, hq, e⟩
  · rw [e, needF_n (by decide)]
    exact ⟨Or.inl, fun h => h.elim id (fun h => absurd (by decide) h.1)⟩
  · rw [e, needF_nI hq, isN_nd hq hz, Bool.or_eq_true, decide_eq_true_eq, tn_nI (by omega)]
    exact ⟨fun h => h.elim Or.inl (fun h => Or.inr ⟨nI_pos (by omega), h⟩), fun h => h.elim Or.inl (fun h => Or.inr h.2)⟩
theorem isN_0 {z : Nat} (hz : z < 4032) : isN (fun _ => 0) z = false := by
  rw [isN_b hz]
  show (0#64).getLsbD _ = false
  simp
