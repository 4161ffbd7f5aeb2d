section QSF
variable {α : Nat → Nat} {a : Nat → Int32} {N F k0 : Nat}
def cn (α : Nat → Nat) (k : Nat) : Nat → Nat
  | 0 => 0
  | t + 1 => if k ≤ α t then cn α k t + 1 else cn α k t
def kb (α : Nat → Nat) (N F k0 : Nat) : Nat → Nat
  | 0 => k0
  | t + 1 => if kb α N F k0 t < α t ∧ F ≤ cn α (α t) N then α t else kb α N F k0 t
def cm (α : Nat → Nat) (N F k0 : Nat) : Nat → Nat
  | 0 => k0
  | d + 1 => if F ≤ cn α (k0 + d + 1) N then k0 + d + 1 else cm α N F k0 d
theorem cn_le (k : Nat) : ∀ t, cn α k t ≤ t
  | 0 => Nat.le_refl _
  | t + 1 => by
    have h := cn_le k t
    rw [cn]
    split <;> omega
theorem cn_0 {k : Nat} : ∀ t, cn α k t = 0 → ∀ u, u < t → ¬ k ≤ α u
  | 0, _, u, hu => by omega
  | t + 1, h, u, hu => by
    rw [cn] at h
    split at h
    · omega
    · rename_i hn
      rcases Nat.lt_or_ge u t with h1 | h1
      · exact cn_0 t h u h1
      · rw [show u = t by omega]
        exact hn
theorem cn_mono {k v : Nat} : ∀ t, (∀ u, u < t → k ≤ α u → v ≤ α u) → cn α k t ≤ cn α v t
  | 0, _ => Nat.le_refl _
  | t + 1, h => by
    have ih := cn_mono (k := k) (v := v) t (fun u hu => h u (by omega))
    rw [cn, cn]
    by_cases hk : k ≤ α t
    · rw [if_pos hk, if_pos (h t (by omega) hk)]
      omega
    · rw [if_neg hk]
      split <;> omega
theorem cn_min {k : Nat} : ∀ t, 1 ≤ cn α k t → ∃ u, u < t ∧ k ≤ α u ∧ ∀ w, w < t → k ≤ α w → α u ≤ α w
  | 0, h => by simp [cn] at h
  | t + 1, h => by
    by_cases hk : k ≤ α t
    · by_cases h0 : cn α k t = 0
      · exact ⟨t, by omega, hk, fun w hw hkw => by
          rcases Nat.lt_or_ge w t with h1 | h1
          · exact absurd hkw (cn_0 t h0 w h1)
          · rw [show w = t by omega]
            exact Nat.le_refl _⟩
      · obtain ⟨u, hu, h1, h2⟩ := cn_min (k := k) t (by omega)
        by_cases hl : α u ≤ α t
        · exact ⟨u, by omega, h1, fun w hw hkw => by
            rcases Nat.lt_or_ge w t with h3 | h3
            · exact h2 w h3 hkw
            · rw [show w = t by omega]
              exact hl⟩
        · exact ⟨t, by omega, hk, fun w hw hkw => by
            rcases Nat.lt_or_ge w t with h3 | h3
            · have := h2 w h3 hkw
              omega
            · rw [show w = t by omega]
              exact Nat.le_refl _⟩
    · rw [cn, if_neg hk] at h
      obtain ⟨u, hu, h1, h2⟩ := cn_min (k := k) t h
      exact ⟨u, by omega, h1, fun w hw hkw => by
        rcases Nat.lt_or_ge w t with h3 | h3
        · exact h2 w h3 hkw
        · rw [show w = t by omega] at hkw
          exact absurd hkw hk⟩
theorem kb_ok : ∀ t, k0 ≤ kb α N F k0 t ∧ (kb α N F k0 t = k0 ∨ ∃ u, u < t ∧ kb α N F k0 t = α u ∧ F ≤ cn α (α u) N) ∧ ∀ u, u < t → F ≤ cn α (α u) N → α u ≤ kb α N F k0 t
  | 0 => ⟨Nat.le_refl _, Or.inl rfl, fun u hu => by omega⟩
  | t + 1 => by
    obtain ⟨h1, h2, h3⟩ := kb_ok t
    rw [kb]
    by_cases hc : kb α N F k0 t < α t ∧ F ≤ cn α (α t) N
    · rw [if_pos hc]
      refine ⟨by omega, Or.inr ⟨t, by omega, rfl, hc.2⟩, fun u hu hf => ?_⟩
      rcases Nat.lt_or_ge u t with h | h
      · have := h3 u h hf
        omega
      · rw [show u = t by omega]
        exact Nat.le_refl _
    · rw [if_neg hc]
      refine ⟨h1, h2.imp_right (fun ⟨u, x1, x2, x3⟩ => ⟨u, by omega, x2, x3⟩), fun u hu hf => ?_⟩
      rcases Nat.lt_or_ge u t with h | h
      · exact h3 u h hf
      · have hut : u = t := by omega
        subst hut
        rcases Nat.lt_or_ge (kb α N F k0 u) (α u) with h4 | h4
        · exact absurd ⟨h4, hf⟩ hc
        · exact h4
theorem cm_ok : ∀ d, k0 ≤ cm α N F k0 d ∧ cm α N F k0 d ≤ k0 + d ∧ (cm α N F k0 d = k0 ∨ F ≤ cn α (cm α N F k0 d) N) ∧ ∀ k, k0 < k → k ≤ k0 + d → F ≤ cn α k N → k ≤ cm α N F k0 d
  | 0 => ⟨Nat.le_refl _, Nat.le_refl _, Or.inl rfl, fun k h1 h2 => by omega⟩
  | d + 1 => by
    obtain ⟨h1, h2, h3, h4⟩ := cm_ok d
    rw [cm]
    by_cases hc : F ≤ cn α (k0 + d + 1) N
    · rw [if_pos hc]
      exact ⟨by omega, by omega, Or.inr hc, fun k h5 h6 h7 => by omega⟩
    · rw [if_neg hc]
      refine ⟨h1, by omega, h3, fun k h5 h6 h7 => ?_⟩
      rcases Nat.lt_or_ge k (k0 + d + 1) with h | h
      · exact h4 k h5 (by omega) h7
      · rw [show k = k0 + d + 1 by omega] at h7
        exact absurd h7 hc
theorem kb_cm (hF : 1 ≤ F) (h24 : ∀ t, t < N → α t ≤ 24) : kb α N F k0 N = cm α N F k0 (24 - k0) := by
  obtain ⟨a1, a2, a3⟩ := kb_ok (α := α) (N := N) (F := F) (k0 := k0) N
  obtain ⟨b1, b2, b3, b4⟩ := cm_ok (α := α) (N := N) (F := F) (k0 := k0) (24 - k0)
  apply Nat.le_antisymm
  · rcases a2 with h | ⟨u, hu, h1, h2⟩
    · omega
    · rcases Nat.lt_or_ge k0 (kb α N F k0 N) with h | h
      · have := h24 u hu
        exact b4 _ h (by omega) (by rw [h1]; exact h2)
      · omega
  · rcases b3 with h | h
    · omega
    · obtain ⟨u, hu, h1, h2⟩ := cn_min (α := α) N (Nat.le_trans hF h)
      have h3 := cn_mono (α := α) (v := α u) N (fun w hw hk => h2 w hw hk)
      have := a3 u hu (Nat.le_trans h h3)
      omega
theorem cak_n {k : Nat} (hN : N ≤ 5) (ha : ∀ t, t < N → a t = nI (α t) ∧ α t ≤ 24) (hk : k ≤ 24) : ∀ t, t ≤ N → cak a (nI k) t = nI (cn α k t)
  | 0, _ => rfl
  | t + 1, ht => by
    have ih := cak_n hN ha hk t (by omega)
    obtain ⟨h1, h2⟩ := ha t (by omega)
    rw [cak, cn, h1, ih]
    by_cases h : k ≤ α t
    · rw [if_pos h, if_pos ((nI_leI (by omega) (by omega)).mpr h), nI_succ]
    · rw [if_neg h, if_neg (fun q => h ((nI_leI (by omega) (by omega)).mp q))]
theorem kb_24 (h0 : k0 ≤ 24) (h24 : ∀ t, t < N → α t ≤ 24) : ∀ t, t ≤ N → kb α N F k0 t ≤ 24
  | 0, _ => h0
  | t + 1, ht => by
    rw [kb]
    split
    · exact h24 t (by omega)
    · exact kb_24 h0 h24 t (by omega)
theorem akb_n (hN : N ≤ 5) (hF : F ≤ 5) (ha : ∀ t, t < N → a t = nI (α t) ∧ α t ≤ 24) (h0 : k0 ≤ 24) : ∀ t, t ≤ N → akb a N (nI F) (nI k0) t = nI (kb α N F k0 t)
  | 0, _ => rfl
  | t + 1, ht => by
    have ih := akb_n hN hF ha h0 t (by omega)
    obtain ⟨h1, h2⟩ := ha t (by omega)
    have h3 := kb_24 (F := F) h0 (fun t ht => (ha t ht).2) t (by omega)
    have h4 := cn_le (α := α) (α t) N
    rw [akb, kb, ih, h1, cak_n hN ha h2 N (Nat.le_refl _)]
    have e : (nI (kb α N F k0 t) < nI (α t) ∧ nI F ≤ nI (cn α (α t) N)) ↔ (kb α N F k0 t < α t ∧ F ≤ cn α (α t) N) := by
      rw [nI_ltI (by omega) (by omega), nI_leI (by omega) (by omega)]
    by_cases h : kb α N F k0 t < α t ∧ F ≤ cn α (α t) N
    · rw [if_pos h, if_pos (e.mpr h)]
    · rw [if_neg h, if_neg (fun q => h (e.mp q))]
end QSF
section QSG
variable {N n i : Nat} {s : QS} {S : GS} {o : Option Msg} {M : Msg}
theorem fse_len : ∀ (es : List Ent) (k : Nat), es.length ≤ 24 → k ≤ es.length → (fse es (nI k)).length = k
  | [], k, _, hk => by simp [fse] at *; omega
  | e :: es, k, hl, hk => by
    have hl' : es.length + 1 ≤ 24 := hl
    have hk' : k ≤ es.length + 1 := hk
    rw [fse]
    by_cases h : k < es.length + 1
    · rw [if_pos (nI_lt h (by omega))]
      exact fse_len es k (by omega) (by omega)
    · rw [if_neg (nI_nlt (by omega) (by omega))]
      show es.length + 1 = k
      omega
theorem fse_cel {row : Nat} {c : Int32} : ∀ {es : List Ent}, CelQ s row es → CelQ s row (fse es c)
  | [], h => h
  | e :: es, h => by
    rw [fse]
    split
    · exact fse_cel h.2.2.2
    · exact h
theorem sum_tot {row : Nat} : ∀ {es : List Ent}, CelQ s row es → q_sum s row es.length = tot es
  | [], _ => rfl
  | e :: es, ⟨h1, h2, h3, h4⟩ => by
    show 3 * q_sum s row es.length + s.1 5 (24 * row + es.length) + s.1 3 (24 * row + es.length) = 3 * tot es + e.2.2 + e.1
    rw [h1, h3, sum_tot h4]
theorem sum_fse {row k : Nat} {es : List Ent} (h : RowQ s row es) (hk : k ≤ es.length) : q_sum s row k = tot (fse es (nI k)) := by
  have h1 := sum_tot (fse_cel (c := nI k) h.2.2)
  rw [fse_len es k h.2.1 hk] at h1
  exact h1
theorem hd_fse {row k : Nat} {es : List Ent} (h : RowQ s row es) (hk : k < es.length) : s.1 3 (24 * row + k) = (hd (fse es (nI (k + 1)))).1 ∧ s.1 4 (24 * row + k) = (hd (fse es (nI (k + 1)))).2.1 ∧ s.1 5 (24 * row + k) = (hd (fse es (nI (k + 1)))).2.2 := by
  have h1 := fse_len es (k + 1) h.2.1 hk
  have h2 := fse_cel (c := nI (k + 1)) h.2.2
  revert h1 h2
  generalize fse es (nI (k + 1)) = E
  intro h1 h2
  cases E with
  | nil => simp at h1
  | cons e E =>
    have h3 : E.length = k := by simpa using h1
    obtain ⟨b1, b2, b3, b4⟩ := h2
    rw [h3] at b1 b2 b3
    exact ⟨b1, b2, b3⟩
theorem hd_mem : ∀ {es : List Ent} {c : Int32}, okL es → okE (hd (fse es c))
  | [], _, _ => ⟨0, by omega, rfl⟩
  | e :: es, c, h => by
    rw [fse]
    split
    · exact hd_mem ⟨by have h1 : es.length + 1 ≤ 24 := h.1; omega, fun x hx => h.2 x (List.mem_cons_of_mem _ hx)⟩
    · exact h.2 e List.mem_cons_self
theorem q_sum_30 {c r : Nat} {x : Int32} : ∀ k, q_sum (qw s 30 c x) r k = q_sum s r k
  | 0 => rfl
  | k + 1 => by
    rw [q_sum, q_sum, q_sum_30 k, qw_a, if_neg (by omega), qw_a, if_neg (by omega)]
theorem rel_cli {c : Nat} {x y : Int32} (hN : N ≤ 5) (h : Rel N s S o) (hc : c < 4) : Rel N (qw (qw s 30 c x) 31 c y) (gT S, gL S, gM S, va_up (gN S) c x, va_up (gA S) c y, gR S) o := by
  obtain ⟨a1, a2, a3, a4, a5, a6⟩ := h
  have sm : ∀ j z, ¬ j = 30 → ¬ j = 31 → (qw (qw s 30 c x) 31 c y).1 j z = s.1 j z := fun j z h1 h2 => by rw [qw_a, if_neg (fun q => h2 q.1), qw_a, if_neg (fun q => h1 q.1)]
  refine ⟨a1, a2, fun d hd => ?_, fun i hi => (a4 i hi).cg hN (fun j z hz => sm j z (by unfold inR at hz; omega) (by unfold inR at hz; omega)), fun k hk hk2 => ?_, fun M hM => (a6 M hM).cg hN (fun j z hz => sm j z (by unfold inM at hz; omega) (by unfold inM at hz; omega))⟩
  · show _ = va_up (gN S) c x d ∧ _ = va_up (gA S) c y d
    by_cases e : d = c
    · subst e
      rw [va_s, va_s]
      refine ⟨?_, ?_⟩
      · rw [qw_a, if_neg (by omega), qw_a, if_pos ⟨rfl, rfl⟩]
      · rw [qw_a, if_pos ⟨rfl, rfl⟩]
    · rw [va_n e, va_n e]
      refine ⟨?_, ?_⟩
      · rw [qw_a, if_neg (by omega), qw_a, if_neg (by omega)]
        exact (a3 d hd).1
      · rw [qw_a, if_neg (by omega), qw_a, if_neg (by omega)]
        exact (a3 d hd).2
  · obtain ⟨b1, b2⟩ := a5 k hk hk2
    exact ⟨b1.cg hN (fun j z hz => sm j z (by unfold inM at hz; omega) (by unfold inM at hz; omega)), (sm 22 _ (by decide) (by decide)).trans b2⟩
theorem rel_ans {k c : Nat} (hN : N ≤ 5) (hi : i < N) (h : Rel N s S o) (hk : k < (rG (gR S i)).length) (hc : s.1 3 (24 * i + k) = nI c) (hc4 : c < 4) : Rel N (q_ans s i k c) (g_ans S (fse (rG (gR S i)) (nI (k + 1)))) o := by
  have hrow := (h.2.2.2.1 i hi).2.2.2.2.1
  obtain ⟨h1, h2, h3⟩ := hd_fse hrow hk
  have hcl : (hd (fse (rG (gR S i)) (nI (k + 1)))).1.toNatClampNeg = c := by
    rw [← h1, hc]
    exact nI_clamp (by omega)
  have hn := (h.2.2.1 c hc4).1
  rw [q_ans, g_ans, hcl, hn, h2]
  by_cases hl : (hd (fse (rG (gR S i)) (nI (k + 1)))).2.1 < gN S c
  · rw [if_pos hl, if_neg (Int32.not_le.mpr hl)]
    exact h
  · rw [if_neg hl, if_pos (Int32.not_lt.mp hl), q_sum_30, sum_fse hrow hk]
    exact rel_cli hN h hc4
theorem rel_ack {x : Int32} (hN : N ≤ 5) (hi : i < N) (hms : mS M < N) (h : Rel N s S o) (hx : x = mx (rA (gR S i) (mS M)) (nI (mG M).length)) : Rel N (qw s 11 (5 * i + mS M) x) (g_rep S i (r_ack (gR S i) M)) o := by
  obtain ⟨a1, a2, a3, a4, a5, a6, a7, a8, a9, a10, a11⟩ := h.2.2.2.1 i hi
  have sm : ∀ j z, ¬ j = 11 → (qw s 11 (5 * i + mS M) x).1 j z = s.1 j z := fun j z b => by rw [qw_a, if_neg (fun q => b q.1)]
  refine h.rep hN hi rfl (fun j z hz => ?_) ⟨(sm 6 i (by decide)).trans a1, (sm 7 i (by decide)).trans a2, (sm 8 i (by decide)).trans a3, (sm 9 i (by decide)).trans a4, a5.mv (sm 2 i (by decide)) (fun j k h1 h2 h3 => sm j _ (by omega)), fun t ht => (sm 10 _ (by decide)).trans (a6 t ht), fun t ht => ?_, (sm 12 i (by decide)).trans a8, (sm 13 i (by decide)).trans a9, fun t ht => (a10 t ht).cg (sm 14 _ (by decide)) (sm 15 _ (by decide)), fun t ht => (a11 t ht).cg (fun j h1 h2 => sm j _ (by omega)) (fun es he => he.mv (sm 2 _ (by decide)) (fun j k h1 h2 h3 => sm j _ (by omega)))⟩
  · unfold inR at hz
    rw [qw_a, if_neg (by omega)]
  · show _ = va_up (rA (gR S i)) (mS M) (mx (rA (gR S i) (mS M)) (nI (mG M).length)) t
    by_cases e : t = mS M
    · subst e
      rw [va_s, qw_a, if_pos ⟨rfl, rfl⟩, hx]
    · rw [va_n e, qw_a, if_neg (by omega)]
      exact a7 t ht
end QSG
