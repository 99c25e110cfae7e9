/-! the grounds: what is packed is read back -/
theorem nI_mask (n k : Nat) {m : Int32} (hm : m.toBitVec.toNat = 2 ^ k - 1) (hk : k ≤ 32) : nI n &&& m = nI (n % 2 ^ k) := by
  rw [pk_and (nI n) k hm]
  congr 1
  have : (nI n).toBitVec.toNat = n % 2 ^ 32 := by
    show (BitVec.ofNat 32 n).toNat = _
    rw [BitVec.toNat_ofNat]
  rw [this]
  exact Nat.mod_mod_of_dvd n (Nat.pow_dvd_pow 2 hk)
def pkN (t k f s : Nat) : Nat := t * 4294967296 + k * 16777216 + f * 4096 + s
theorem pkJ_N {t k f s : Nat} (ht : t < 65536) (hk : k < 256) (hf : f < 4096) (hs : s < 4096) : pkJ (nI t) (nI k) (nI f) (nI s) = lN (pkN t k f s) := by
  unfold pkJ pkN
  rw [nI_l (n := t) (by omega), nI_l (n := k) (by omega), nI_l (n := f) (by omega), nI_l (n := s) (by omega), wb_shl t (by decide), wb_shl k (by decide), wb_shl f (by decide)]
  rw [g_or (k := 32) (p := 2 ^ 32) rfl (by omega) (by omega)]
  rw [show t * 2 ^ 32 + k * 2 ^ 24 = (t * 256 + k) * 2 ^ 24 by omega, g_or (k := 24) (p := 2 ^ 24) rfl (by omega) (by omega)]
  rw [show (t * 256 + k) * 2 ^ 24 + f * 2 ^ 12 = (t * 1048576 + k * 4096 + f) * 2 ^ 12 by omega, g_or (k := 12) (p := 2 ^ 12) rfl (by omega) (by omega)]
theorem pkJ_pos {t k f s : Nat} (ht : t < 65536) (hk : k < 256) (hf : f < 4096) (hs : s < 4096) : ¬ pkJ (nI t) (nI k) (nI f) (nI s) < 0 := by
  rw [pkJ_N ht hk hf hs]
  have h0 : (0 : Int64) = lN 0 := rfl
  rw [h0, pk_lLT (by unfold pkN; omega) (by decide)]
  omega
theorem sh64 : ∀ d, d < 64 → (((nI d).toInt64 &&& 63).toBitVec.smod 64).toNat = d := by decide +kernel
theorem rdO_pk {t k f s : Nat} (ht : t < 65536) (hk : k < 256) (hf : f < 4096) (hs : s < 4096) : rdO (pkJ (nI t) (nI k) (nI f) (nI s)) = nI t := by
  unfold rdO
  rw [pkJ_N ht hk hf hs, pf_shr (sh64 32 (by decide)) (by unfold pkN; omega), lN_i]
  congr 1
  unfold pkN
  omega
theorem axO_pk {t k f s : Nat} (ht : t < 65536) (hk : k < 256) (hf : f < 4096) (hs : s < 4096) : axO (pkJ (nI t) (nI k) (nI f) (nI s)) = if k = 255 then (-1) else nI k := by
  have e : (pkJ (nI t) (nI k) (nI f) (nI s) >>> ((nI 24).toInt64 &&& 63)).toInt32 &&& nI 255 = nI k := by
    rw [pkJ_N ht hk hf hs, pf_shr (sh64 24 (by decide)) (by unfold pkN; omega), lN_i, nI_mask _ 8 (by decide +kernel) (by decide)]
    congr 1
    unfold pkN
    omega
  unfold axO
  rw [e]
  by_cases h : k = 255
  · rw [if_pos h, if_pos (by rw [h])]
  · rw [if_neg h, if_neg (fun q => h ((nI_eq (by omega) (by decide)).mp q))]
theorem fiO_pk {t k f s : Nat} (ht : t < 65536) (hk : k < 256) (hf : f < 4096) (hs : s < 4096) : fiO (pkJ (nI t) (nI k) (nI f) (nI s)) = if f = 4095 then (-1) else nI f := by
  have e : (pkJ (nI t) (nI k) (nI f) (nI s) >>> ((nI 12).toInt64 &&& 63)).toInt32 &&& nI 4095 = nI f := by
    rw [pkJ_N ht hk hf hs, pf_shr (sh64 12 (by decide)) (by unfold pkN; omega), lN_i, nI_mask _ 12 (by decide +kernel) (by decide)]
    congr 1
    unfold pkN
    omega
  unfold fiO
  rw [e]
  by_cases h : f = 4095
  · rw [if_pos h, if_pos (by rw [h])]
  · rw [if_neg h, if_neg (fun q => h ((nI_eq (by omega) (by decide)).mp q))]
theorem seO_pk {t k f s : Nat} (ht : t < 65536) (hk : k < 256) (hf : f < 4096) (hs : s < 4096) : seO (pkJ (nI t) (nI k) (nI f) (nI s)) = if s = 4095 then (-1) else nI s := by
  have e : (pkJ (nI t) (nI k) (nI f) (nI s)).toInt32 &&& nI 4095 = nI s := by
    rw [pkJ_N ht hk hf hs, lN_i, nI_mask _ 12 (by decide +kernel) (by decide)]
    congr 1
    unfold pkN
    omega
  unfold seO
  rw [e]
  by_cases h : s = 4095
  · rw [if_pos h, if_pos (by rw [h])]
  · rw [if_neg h, if_neg (fun q => h ((nI_eq (by omega) (by decide)).mp q))]
/-- what a reason's numbers are -/
def okV (n : Nat) (v : V3) : Prop := (∃ k, k ≤ 100 ∧ v.1 = nI k) ∧ (∃ f, f < 168 ∧ v.2.1 = nI f) ∧ (v.2.2 = nI 4095 ∨ ∃ y c, y < n ∧ c < 168 ∧ v.2.2 = nI (cod y c))
theorem cK_ok {S : Nat → Nat → Bool} {n k : Nat} {kd ia ib ic : Int32} {a c : Nat} {v : V3} (hn : n ≤ 24) (hk : k < 80) (ha : a < n) (hax : axV n kd ia ib ic) (h : cK S n k kd (tn ia) (tn ib) (tn ic) a c = some v) : okV n v := by
  have tl : ∀ {m : Nat} {x : Int32}, m ≤ 24 → clV m x → tn x < m := by
    intro m x hm ⟨j, hj, e⟩
    rw [e, tn_nI (by omega)]
    exact hj
  have k1 : ∃ k', k' ≤ 100 ∧ nI k = nI k' := ⟨k, by omega, rfl⟩
  unfold cK at h
  split at h
  · rename_i e
    have := hax.1 e
    split at h <;> cases h
    exact ⟨k1, ⟨_, by have := tl hn this.1; omega, rfl⟩, Or.inl rfl⟩
  split at h
  · rename_i e
    have := hax.2.1 e
    split at h <;> cases h
    exact ⟨k1, ⟨_, by have := tl hn this.1; omega, rfl⟩, Or.inr ⟨a, _, ha, by have := tl hn this.2.1; omega, rfl⟩⟩
  split at h
  · rename_i e
    have := hax.2.2.1 e
    split at h <;> cases h
    exact ⟨k1, ⟨_, by have := tl hn this.1; omega, rfl⟩, Or.inl rfl⟩
  split at h
  · rename_i e
    have := hax.2.2.2.1 e
    split at h
    · obtain ⟨y, hy, -, e⟩ := lm_some h
      rw [e]
      exact ⟨k1, ⟨_, lcol_lt (tl (by decide) this.1) (by omega), rfl⟩, Or.inr ⟨y, _, hy, by have := tl hn this.2.1; omega, rfl⟩⟩
    · cases h
  split at h
  · rename_i e
    have := hax.2.2.2.2.1 e
    obtain ⟨y, hy, -, e⟩ := lm_some h
    rw [e]
    exact ⟨k1, ⟨_, lcol_lt (tl (by decide) this.1) (by omega), rfl⟩, Or.inl rfl⟩
  split at h
  · rename_i e
    have := hax.2.2.2.2.2.1 e
    split at h
    · rename_i z hz
      have hz2 := lst_lt hz
      obtain ⟨y, hy, -, e⟩ := lm_some h
      rw [e]
      exact ⟨k1, ⟨_, lcol_lt (tl (by decide) this.1) (by omega), rfl⟩, Or.inr ⟨y, _, hy, lcol_lt (tl (by decide) this.2.1) (by omega), rfl⟩⟩
    · cases h
  · cases h
theorem FA_ok {S : Nat → Nat → Bool} {n cnt : Nat} {Kd Aa Ab Ac : Nat → Int32} {a c : Nat} {v : V3} (hn : n ≤ 24) (hcnt : cnt ≤ 80) (ha : a < n) (hax : ∀ k, k < cnt → axV n (Kd k) (Aa k) (Ab k) (Ac k)) : ∀ {k : Nat}, k ≤ cnt → FA S n Kd Aa Ab Ac k a c = some v → okV n v
  | 0, _, h => by cases h
  | k + 1, hk, h => by
    rcases oo_or h with h | h
    · exact FA_ok hn hcnt ha hax (by omega) h
    · exact cK_ok hn (by omega) ha (hax k (by omega)) h
theorem FB_ok {S : Nat → Nat → Bool} {n : Nat} {F : Nat → Nat → Option V3} {a c : Nat} {v : V3} (hn : n ≤ 24) (hF : ∀ v, F a c = some v → okV n v) : ∀ {r : Nat}, r ≤ 6 → FB S n F r a c = some v → okV n v
  | 0, _, h => hF v h
  | r + 1, hr, h => by
    rcases oo_or h with h | h
    · exact FB_ok hn hF (by omega) h
    · split at h
      · obtain ⟨y, hy, -, e⟩ := lm_some h
        rw [e]
        exact ⟨⟨100, by omega, rfl⟩, ⟨_, lcol_lt (by omega) (by omega), rfl⟩, Or.inr ⟨y, 1, hy, by decide, rfl⟩⟩
      · cases h
theorem full_ok {S : Nat → Nat → Bool} {n cnt : Nat} {Kd Aa Ab Ac : Nat → Int32} {a c : Nat} {v : V3} (hn : n ≤ 24) (hcnt : cnt ≤ 80) (ha : a < n) (hax : ∀ k, k < cnt → axV n (Kd k) (Aa k) (Ab k) (Ac k)) (h : full S n cnt Kd Aa Ab Ac a c = some v) : okV n v :=
  FB_ok hn (fun v hv => FA_ok hn hcnt ha hax (Nat.le_refl cnt) hv) (Nat.le_refl 6) h
/-- the grounds g and the model's four numbers tell the same -/
def tells (g : Int64) (q : Int32 × Int32 × Int32 × Int32) : Prop := ¬ g < 0 ∧ rdO g = q.1 ∧ axO g = q.2.1 ∧ fiO g = q.2.2.1 ∧ seO g = q.2.2.2
theorem okV_tells {n t a : Nat} {v : V3} (hn : n ≤ 24) (ht : t < 65536) (ha : a < n) (h : okV n v) : tells (pkV (nI t) a v) (v4 t a v) := by
  obtain ⟨⟨k, hk, e1⟩, ⟨f, hf, e2⟩, h3⟩ := h
  have hc := cod_lt (show a < 24 by omega) hf
  obtain ⟨s, hs, e3, e4⟩ : ∃ s, s < 4096 ∧ v.2.2 = nI s ∧ seV v = if s = 4095 then (-1) else nI s := by
    rcases h3 with h3 | ⟨y, c, hy, hc2, h3⟩
    · exact ⟨4095, by decide, h3, by unfold seV; rw [if_pos h3, if_pos rfl]⟩
    · have hl := cod_lt (show y < 24 by omega) hc2
      exact ⟨cod y c, by omega, h3, by unfold seV; rw [h3, if_neg (fun q => by have := (nI_eq (by omega) (by decide)).mp q; omega), if_neg (by omega)]⟩
  unfold pkV v4 tells
  rw [e1, e2, fstI_nI hf, e3]
  refine ⟨pkJ_pos ht (by omega) (by omega) hs, rdO_pk ht (by omega) (by omega) hs, ?_, ?_, ?_⟩
  · rw [axO_pk ht (by omega) (by omega) hs, if_neg (by omega)]
  · rw [fiO_pk ht (by omega) (by omega) hs, if_neg (by omega)]
  · rw [seO_pk ht (by omega) (by omega) hs, e4]
/-- in round 0 -/
theorem first_tells (a : Nat) : tells (pkV (nI 0) a (nI 255, nI 4095, nI 4095)) (nI 0, (-1), (-1), (-1)) := by
  unfold pkV tells
  rw [show fstI (nI a) (nI 4095) = nI 4095 from if_pos rfl]
  exact ⟨pkJ_pos (by decide) (by decide) (by decide) (by decide), rdO_pk (by decide) (by decide) (by decide) (by decide), by rw [axO_pk (by decide) (by decide) (by decide) (by decide), if_pos rfl], by rw [fiO_pk (by decide) (by decide) (by decide) (by decide), if_pos rfl], by rw [seO_pk (by decide) (by decide) (by decide) (by decide), if_pos rfl]⟩
