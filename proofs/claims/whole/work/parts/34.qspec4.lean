section QSC
variable {l : Launch} {D : va_G} {cid : Nat → ClassId} {f : HF} {B : Nat → Nat} {N n i : Nat} {s s' : QS} {S : GS} {o : Option Msg} {M : Msg}
theorem rel_vote (hN : N ≤ 5) (hi : i < N) (hms : mS M < N) (h : Rel N s S (some M)) : Rel N (qw (qw s 14 (5 * i + mS M) 1) 15 (5 * i + mS M) (s.1 27 (320 + mS M))) (g_rep S i (r_vote (gR S i) M)) (some M) := by
  obtain ⟨a1, a2, a3, a4, a5, a6, a7, a8, a9, a10, a11⟩ := h.2.2.2.1 i hi
  have hm := (msg_at h).2.2.2.2.2.1
  have sm : ∀ j x, (¬ j = 14 ∧ ¬ j = 15) ∨ ¬ x = 5 * i + mS M → (qw (qw s 14 (5 * i + mS M) 1) 15 (5 * i + mS M) (s.1 27 (320 + mS M))).1 j x = s.1 j x := fun j x b => by
    rw [qw_a, if_neg (by omega), qw_a, if_neg (by omega)]
  refine h.rep hN hi rfl (fun j x hx => sm j x ?_) ⟨(sm 6 i (by omega)).trans a1, (sm 7 i (by omega)).trans a2, (sm 8 i (by omega)).trans a3, (sm 9 i (by omega)).trans a4, a5.mv (sm 2 i (by omega)) (fun j k h1 h2 h3 => sm j _ (by omega)), fun t ht => (sm 10 _ (by omega)).trans (a6 t ht), fun t ht => (sm 11 _ (by omega)).trans (a7 t ht), (sm 12 i (by omega)).trans a8, (sm 13 i (by omega)).trans a9, fun t ht => ?_, fun t ht => (a11 t ht).cg (fun j h1 h2 => sm j _ (by omega)) (fun es he => he.mv (sm 2 _ (by omega)) (fun j k h1 h2 h3 => sm j _ (by omega)))⟩
  · unfold inR at hx
    omega
  · show VoQ _ _ _ (va_up (rO (gR S i)) (mS M) (some M) t)
    by_cases e : t = mS M
    · subst e
      rw [va_s]
      refine ⟨?_, ?_⟩
      · rw [qw_a, if_neg (by omega), qw_a, if_pos ⟨rfl, rfl⟩]
      · rw [qw_a, if_pos ⟨rfl, rfl⟩]
        exact hm _ ht
    · rw [va_n e]
      exact (a10 t ht).cg (sm 14 _ (by omega)) (sm 15 _ (by omega))
theorem rel_sent (hN : N ≤ 5) (hi : i < N) (h : Rel N s S o) : Rel N (qw s 12 i 1) (g_rep S i (r_sent (gR S i))) o := by
  obtain ⟨a1, a2, a3, a4, a5, a6, a7, a8, a9, a10, a11⟩ := h.2.2.2.1 i hi
  have sm : ∀ j x, ¬ j = 12 → (qw s 12 i 1).1 j x = s.1 j x := fun j x b => by rw [qw_a, if_neg (fun q => b q.1)]
  refine h.rep hN hi rfl (fun j x hx => ?_) ⟨(sm 6 i (by decide)).trans a1, (sm 7 i (by decide)).trans a2, (sm 8 i (by decide)).trans a3, (sm 9 i (by decide)).trans a4, a5.mv (sm 2 i (by decide)) (fun j k h1 h2 h3 => sm j _ (by omega)), fun t ht => (sm 10 _ (by decide)).trans (a6 t ht), fun t ht => (sm 11 _ (by decide)).trans (a7 t ht), ?_, (sm 13 i (by decide)).trans a9, fun t ht => (a10 t ht).cg (sm 14 _ (by decide)) (sm 15 _ (by decide)), fun t ht => (a11 t ht).cg (fun j h1 h2 => sm j _ (by omega)) (fun es he => he.mv (sm 2 _ (by decide)) (fun j k h1 h2 h3 => sm j _ (by omega)))⟩
  · unfold inR at hx
    rw [qw_a, if_neg (by omega)]
  · rw [qw_a, if_pos ⟨rfl, rfl⟩]
    rfl
theorem sp_Q_change (hB : QI B) (hN : N = 3 ∨ N = 5) (hi : i < N) (hR : Rel N s S (some M)) (hI : Inv N n S) (hM : InvM N n M) (hn : n < 2 ^ 30) (hT : gT S < 2 ^ 28) : CS l D cid m_Q_change [.ref (B 0), .int (nI i), .int (nI (mS M))] (hQ f B N s) (PQ f B N none (if mV M = rV (gR (g_join N S i M) i) ∧ rS (gR (g_join N S i M) i) = 1 then g_vote N (g_join N S i M) i M else g_join N S i M) (some M)) := by
  intro X hX
  have hms := hM.1
  have c3 := (msg_at hR).2.2.1
  have a2 := (hR.2.2.2.1 i hi).2.1
  have hTj := T_join (N := N) (S := S) (i := i) (m := M)
  obtain ⟨vv, hvn, hve⟩ := hM.2.2.2.2.1
  have hprim : fmod (mV M) (nI N) = nI (vv % N) := by rw [hve, fm_N (by omega) hN]
  have hpn : vv % N < N := Nat.mod_lt _ (by omega)
  have hpd : prim N (mV M) = vv % N := by rw [prim, hprim]; exact nI_clamp (by omega)
  have hrem : mV M - mV M / nI N * nI N = nI (vv % N) := by rw [hve, pk_rem (by omega) (by omega) (by omega)]
  have h24 : ∀ (s1 : QS) (x4 x5 : Option Value) (bc bs : Nat), Rel N s1 (g_join N S i M) (some M) → FR l D cid m_Q_change X 24 [some (.ref (B 0)), some (.int (nI i)), some (.int (nI (mS M))), some (.int (mV M)), x4, x5] [] (hQ f B N s1) bc bs := by
    intro s1 x4 x5 bc bs h1
    obtain ⟨b1, b2, b3, b4, b5, b6, b7, b8, b9, b10, b11⟩ := h1.2.2.2.1 i hi
    have h44 : ¬ (mV M = rV (gR (g_join N S i M) i) ∧ rS (gR (g_join N S i M) i) = 1) → FR l D cid m_Q_change X 44 [some (.ref (B 0)), some (.int (nI i)), some (.int (nI (mS M))), some (.int (mV M)), x4, x5] [] (hQ f B N s1) bc bs := by
      intro hc
      refine b_Q_change_44 hX _ _ _ _ _ (i_ret ?_)
      refine ⟨rfl, s1, rfl, ?_⟩
      rw [if_neg hc]
      exact h1
    refine b_Q_change_24 hX _ _ _ _ _ (i_iload rfl <| i_aload rfl <| q_getf hB rfl <| i_iload rfl <| q_ald (c := i) hB (by first | rfl | simp only [nn_1, nn_5, nn_6, nn_24, nn_64, nn_69, nn_70, nn_320, nn_1656, nI_mul, nI_add]) (by show _ < 5; omega) <| i_cmp ?_ ?_)
    · intro h
      rw [b2] at h
      exact h44 (fun q => h q.1)
    · intro h
      have hv := Classical.not_not.mp h
      rw [b2] at hv
      refine b_Q_change_34 hX _ _ _ _ _ (i_aload rfl <| q_getf hB rfl <| i_iload rfl <| q_ald (c := i) hB (by first | rfl | simp only [nn_1, nn_5, nn_6, nn_24, nn_64, nn_69, nn_70, nn_320, nn_1656, nI_mul, nI_add]) (by show _ < 5; omega) <| i_push <| i_cmp ?_ ?_)
      · intro hs
        rw [b1] at hs
        have hc : mV M = rV (gR (g_join N S i M) i) ∧ rS (gR (g_join N S i M) i) = 1 := ⟨hv, hs⟩
        have h2 := rel_vote (by omega) hi hms h1
        have hb := h2.2.2.2.1 i hi
        rw [g_rep_R] at hb
        have hb8 := hb.2.2.2.2.2.2.2.1
        have hvo := hb.2.2.2.2.2.2.2.2.2.1
        have h170 : ¬ (¬ nI i = fmod (rV (gR (g_join N S i M) i)) (nI N) ∧ rP (gR (g_join N S i M) i) = 0 ∧ nI (N / 2) ≤ cnt (rO (r_vote (gR (g_join N S i M) i) M)) N) → ∀ (y4 y5 : Option Value) (bc bs : Nat), FR l D cid m_Q_change X 170 [some (.ref (B 0)), some (.int (nI i)), some (.int (nI (mS M))), some (.int (mV M)), y4, y5] [] (hQ f B N (qw (qw s1 14 (5 * i + mS M) 1) 15 (5 * i + mS M) (s1.1 27 (320 + mS M)))) bc bs := by
          intro hn' y4 y5 bc bs
          refine b_Q_change_170 hX _ _ _ _ _ (i_ret ?_)
          refine ⟨rfl, _, rfl, ?_⟩
          rw [if_pos hc, g_vote, if_neg hn']
          exact h2
        have loop : ∀ t, t ≤ N → ∀ bc bs, FR l D cid m_Q_change X 82 [some (.ref (B 0)), some (.int (nI i)), some (.int (nI (mS M))), some (.int (mV M)), some (.int (cnt (rO (r_vote (gR (g_join N S i M) i) M)) t)), some (.int (nI t))] [] (hQ f B N (qw (qw s1 14 (5 * i + mS M) 1) 15 (5 * i + mS M) (s1.1 27 (320 + mS M)))) bc bs := by
          refine up_to ?_ ?_
          · intro bc bs
            refine b_Q_change_82 hX _ _ _ _ _ (i_iload rfl <| i_aload rfl <| q_getf hB rfl <| i_cmp_t (Int32.le_refl _) ?_)
            refine b_Q_change_122 hX _ _ _ _ _ (i_iload rfl <| i_aload rfl <| q_getf hB rfl <| i_binz (nN0 hN) <| i_iload rfl <| i_cmp ?_ ?_)
            · intro he
              rw [hrem] at he
              exact h170 (fun q => q.1 (by rw [← hv, hprim, he])) _ _ _ _
            · intro he
              rw [hrem] at he
              refine b_Q_change_132 hX _ _ _ _ _ (i_aload rfl <| q_getf hB rfl <| i_iload rfl <| q_ald (c := i) hB (by first | rfl | simp only [nn_1, nn_5, nn_6, nn_24, nn_64, nn_69, nn_70, nn_320, nn_1656, nI_mul, nI_add]) (by show _ < 5; omega) <| i_if ?_ ?_)
              · intro hp
                rw [hb8] at hp
                exact h170 (fun q => hp q.2.1) _ _ _ _
              · intro hp
                have hp' := Classical.not_not.mp hp
                rw [hb8] at hp'
                refine b_Q_change_141 hX _ _ _ _ _ (i_iload rfl <| i_aload rfl <| q_getf hB rfl <| i_cmp ?_ ?_)
                · intro hlt
                  exact h170 (fun q => Int32.not_le.mpr hlt q.2.2) _ _ _ _
                · intro hge
                  have hcc : ¬ nI i = fmod (rV (gR (g_join N S i M) i)) (nI N) ∧ rP (gR (g_join N S i M) i) = 0 ∧ nI (N / 2) ≤ cnt (rO (r_vote (gR (g_join N S i M) i) M)) N := ⟨fun q => he (by rw [q, ← hv, hprim]), hp', Int32.not_lt.mp hge⟩
                  have hrow := (h2.2.2.2.1 i hi).2.2.2.2.1
                  refine b_Q_change_150 hX _ _ _ _ _ (i_aload rfl <| i_iload rfl <| i_iload rfl <| i_aload rfl <| q_getf hB rfl <| i_binz (nN0 hN) <| i_push <| ?_)
                  rw [hrem]
                  refine j_upV (q_this hB) (sp_Q_send (d := vv % N) (what := 6) hB (by omega) h2.1 (by show gT (g_join N S i M) < _; omega) hrow.1 hrow.2.1) rfl rfl ?_
                  refine (i_aload rfl <| q_getf hB rfl <| i_iload rfl <| i_push <| q_zst (c := i) hB (by first | rfl | simp only [nn_1, nn_5, nn_6, nn_24, nn_64, nn_69, nn_70, nn_320, nn_1656, nI_mul, nI_add]) (by show _ < 5; omega) <| i_end ?_)
                  refine b_Q_change_170 hX _ _ _ _ _ (i_ret ?_)
                  refine ⟨rfl, _, rfl, ?_⟩
                  rw [if_pos hc, g_vote, if_pos hcc, ← hv, hpd]
                  have h3 := rel_sent (by omega) hi (rel_send (d := vv % N) (what := 6) (by omega) hi h2)
                  rw [show gR (g_send (g_rep (g_join N S i M) i (r_vote (gR (g_join N S i M) i) M)) i 6 (vv % N)) i = r_vote (gR (g_join N S i M) i) M from va_s _ _ _] at h3
                  exact h3
          · intro t ht ih bc bs
            simp only [nI_succ] at ih
            have h114 : ∀ (x : Int32) (y4 : Option Value) (bc bs : Nat), x = cnt (rO (r_vote (gR (g_join N S i M) i) M)) (t + 1) → FR l D cid m_Q_change X 114 [some (.ref (B 0)), some (.int (nI i)), some (.int (nI (mS M))), some (.int (mV M)), y4, some (.int (nI t))] [.int x] (hQ f B N (qw (qw s1 14 (5 * i + mS M) 1) 15 (5 * i + mS M) (s1.1 27 (320 + mS M)))) bc bs := by
              intro x y4 bc bs hx
              subst hx
              refine b_Q_change_114 hX _ _ _ _ _ (i_istore <| i_iinc rfl <| i_end ?_)
              exact ih _ _
            have hvt := hvo t ht
            refine b_Q_change_82 hX _ _ _ _ _ (i_iload rfl <| i_aload rfl <| q_getf hB rfl <| i_cmp_f (nI_ge ht (by omega)) ?_)
            refine b_Q_change_91 hX _ _ _ _ _ (i_aload rfl <| q_getf hB rfl <| i_push <| i_iload rfl <| i_bin <| i_iload rfl <| i_bin <| q_ald (c := 5 * i + t) hB (by first | rfl | simp only [nn_1, nn_5, nn_6, nn_24, nn_64, nn_69, nn_70, nn_320, nn_1656, nI_mul, nI_add]) (by show _ < 25; omega) <| i_if ?_ ?_)
            · intro h0
              refine b_Q_change_112 hX _ _ _ _ _ (i_iload rfl <| i_end ?_)
              refine h114 _ _ _ _ ?_
              cases hk : rO (r_vote (gR (g_join N S i M) i) M) t with
              | none => simp [cnt, hk]
              | some m =>
                rw [hk] at hvt
                exact absurd (hvt.1.symm.trans h0) (by decide)
            · intro h0
              refine b_Q_change_105 hX _ _ _ _ _ (i_iload rfl <| i_push <| i_bin <| i_end ?_)
              refine h114 _ _ _ _ ?_
              cases hk : rO (r_vote (gR (g_join N S i M) i) M) t with
              | none =>
                rw [hk] at hvt
                exact absurd hvt h0
              | some m => simp [cnt, hk]
        refine b_Q_change_45 hX _ _ _ _ _ (i_aload rfl <| q_getf hB rfl <| i_push <| i_iload rfl <| i_bin <| i_iload rfl <| i_bin <| i_push <| q_zst (c := 5 * i + mS M) hB (by first | rfl | simp only [nn_1, nn_5, nn_6, nn_24, nn_64, nn_69, nn_70, nn_320, nn_1656, nI_mul, nI_add]) (by show _ < 25; omega) <| i_aload rfl <| q_getf hB rfl <| i_push <| i_iload rfl <| i_bin <| i_iload rfl <| i_bin <| i_aload rfl <| q_getf hB rfl <| i_push <| i_iload rfl <| i_bin <| q_ald (c := 320 + mS M) hB (by first | rfl | simp only [nn_1, nn_5, nn_6, nn_24, nn_64, nn_69, nn_70, nn_320, nn_1656, nI_mul, nI_add]) (by show _ < 325; omega) <| q_ast (c := 5 * i + mS M) hB (by first | rfl | simp only [nn_1, nn_5, nn_6, nn_24, nn_64, nn_69, nn_70, nn_320, nn_1656, nI_mul, nI_add]) (by show _ < 25; omega) <| i_push <| i_istore <| i_push <| i_istore <| i_end ?_)
        exact loop 0 (Nat.zero_le _) _ _
      · intro hs
        rw [b1] at hs
        exact h44 (fun q => hs q.2)
  refine b_Q_change_0 hX _ _ _ _ _ (i_aload rfl <| q_getf hB rfl <| i_push <| q_ald (c := 64) hB (by first | rfl | simp only [nn_1, nn_5, nn_6, nn_24, nn_64, nn_69, nn_70, nn_320, nn_1656, nI_mul, nI_add]) (by show _ < 65; omega) <| i_istore <| i_iload rfl <| i_aload rfl <| q_getf hB rfl <| i_iload rfl <| q_ald (c := i) hB (by first | rfl | simp only [nn_1, nn_5, nn_6, nn_24, nn_64, nn_69, nn_70, nn_320, nn_1656, nI_mul, nI_add]) (by show _ < 5; omega) <| i_cmp ?_ ?_)
  · intro h
    rw [c3, a2] at h
    rw [c3]
    refine h24 s _ _ _ _ ?_
    rw [g_join, if_neg (Int32.not_lt.mpr h)]
    exact hR
  · intro h
    rw [c3, a2] at h
    rw [c3]
    refine b_Q_change_18 hX _ _ _ _ _ (i_aload rfl <| i_iload rfl <| i_iload rfl <| ?_)
    refine j_callV (q_this hB) (sp_Q_start (v := mV M) hB hN hi hR (by omega)) rfl rfl ?_
    rintro w F' ⟨rfl, s1, rfl, h1⟩
    refine (i_end ?_)
    refine h24 s1 _ _ _ _ ?_
    rw [g_join, if_pos (Int32.not_le.mp h)]
    exact h1
def kpt (s : QS) (c : Nat) (v1 : Int32) : QS := qw (qw (qw (qw (qw s 16 c 1) 17 c v1) 18 c (s.1 24 64)) 19 c (s.1 25 64)) 20 c (s.1 26 64)
theorem kpt_n {c j x : Nat} {v1 : Int32} (h : ¬ (16 ≤ j ∧ j ≤ 20) ∨ ¬ x = c) : (kpt s c v1).1 j x = s.1 j x := by
  unfold kpt
  rw [qw_a, if_neg (by omega), qw_a, if_neg (by omega), qw_a, if_neg (by omega), qw_a, if_neg (by omega), qw_a, if_neg (by omega)]
theorem rel_keep {R' : RS} (hN : N ≤ 5) (hi : i < N) (hms : mS M < N) (h : Rel N s S (some M)) (e1 : rS R' = rS (gR S i)) (e2 : rV R' = rV (gR S i)) (e3 : rL R' = rL (gR S i)) (e4 : rG R' = rG (gR S i)) (e5 : rC R' = rC (gR S i)) (e6 : rX R' = rX (gR S i)) (e7 : rA R' = rA (gR S i)) (e8 : rP R' = rP (gR S i)) (e9 : rO R' = rO (gR S i)) (e10 : rN R' = rN (gR S i)) (ek : kepE R' = va_up (kepE (gR S i)) (mS M) (some M)) :
    Rel N (cp (kpt s (5 * i + mS M) (s.1 27 (320 + mS M))) 69 (70 + (5 * i + mS M)) (mG M).length) (g_rep S i R') (some M) := by
  obtain ⟨a1, a2, a3, a4, a5, a6, a7, a8, a9, a10, a11⟩ := h.2.2.2.1 i hi
  obtain ⟨c1, c2, c3, c4, c5, c6, c7⟩ := msg_at h
  have hml := c7.2.1
  have sm : ∀ j x, (¬ (16 ≤ j ∧ j ≤ 20) ∨ ¬ x = 5 * i + mS M) → ¬ (j = 2 ∧ x = 70 + (5 * i + mS M)) → ¬ ((3 ≤ j ∧ j ≤ 5) ∧ 24 * (70 + (5 * i + mS M)) ≤ x ∧ x < 24 * (70 + (5 * i + mS M)) + 24) → (cp (kpt s (5 * i + mS M) (s.1 27 (320 + mS M))) 69 (70 + (5 * i + mS M)) (mG M).length).1 j x = s.1 j x := fun j x b1 b2 b3 => by
    rw [cp_a, if_neg b2, if_neg (by omega)]
    exact kpt_n b1
  refine h.rep hN hi rfl (fun j x hx => ?_) ⟨?_, ?_, ?_, ?_, ?_, fun t ht => ?_, fun t ht => ?_, ?_, ?_, fun t ht => ?_, fun t ht => ?_⟩
  · unfold inR at hx
    exact sm j x (by omega) (by omega) (by omega)
  · rw [e1]; exact (sm 6 i (by omega) (by omega) (by omega)).trans a1
  · rw [e2]; exact (sm 7 i (by omega) (by omega) (by omega)).trans a2
  · rw [e3]; exact (sm 8 i (by omega) (by omega) (by omega)).trans a3
  · rw [e5]; exact (sm 9 i (by omega) (by omega) (by omega)).trans a4
  · rw [e4]; exact a5.mv (sm 2 i (by omega) (by omega) (by omega)) (fun j k h1 h2 h3 => sm j _ (by omega) (by omega) (by omega))
  · rw [e6]; exact (sm 10 _ (by omega) (by omega) (by omega)).trans (a6 t ht)
  · rw [e7]; exact (sm 11 _ (by omega) (by omega) (by omega)).trans (a7 t ht)
  · rw [e8]; exact (sm 12 i (by omega) (by omega) (by omega)).trans a8
  · rw [e10]; exact (sm 13 i (by omega) (by omega) (by omega)).trans a9
  · rw [e9]; exact (a10 t ht).cg (sm 14 _ (by omega) (by omega) (by omega)) (sm 15 _ (by omega) (by omega) (by omega))
  · rw [ek]
    by_cases e : t = mS M
    · subst e
      rw [va_s]
      have hc : ∀ j, 16 ≤ j → j ≤ 20 → (cp (kpt s (5 * i + mS M) (s.1 27 (320 + mS M))) 69 (70 + (5 * i + mS M)) (mG M).length).1 j (5 * i + mS M) = (kpt s (5 * i + mS M) (s.1 27 (320 + mS M))).1 j (5 * i + mS M) := fun j h1 h2 => by
        rw [cp_a, if_neg (by omega), if_neg (by omega)]
      refine ⟨?_, ?_, ?_, ?_, ?_, ?_⟩
      · rw [hc 16 (by omega) (by omega)]; unfold kpt
        rw [qw_a, if_neg (by omega), qw_a, if_neg (by omega), qw_a, if_neg (by omega), qw_a, if_neg (by omega), qw_a, if_pos ⟨rfl, rfl⟩]
      · rw [hc 17 (by omega) (by omega)]; unfold kpt
        rw [qw_a, if_neg (by omega), qw_a, if_neg (by omega), qw_a, if_neg (by omega), qw_a, if_pos ⟨rfl, rfl⟩]
        exact c6 _ ht
      · rw [hc 18 (by omega) (by omega)]; unfold kpt
        rw [qw_a, if_neg (by omega), qw_a, if_neg (by omega), qw_a, if_pos ⟨rfl, rfl⟩]
        exact c3
      · rw [hc 19 (by omega) (by omega)]; unfold kpt
        rw [qw_a, if_neg (by omega), qw_a, if_pos ⟨rfl, rfl⟩]
        exact c4
      · rw [hc 20 (by omega) (by omega)]; unfold kpt
        rw [qw_a, if_pos ⟨rfl, rfl⟩]
        exact c5
      · have hrow : RowQ (kpt s (5 * i + mS M) (s.1 27 (320 + mS M))) 69 (mG M) := c7.mv (kpt_n (Or.inl (by omega))) (fun j k h1 h2 h3 => kpt_n (Or.inl (by omega)))
        exact hrow.cpy
    · rw [va_n e]
      exact (a11 t ht).cg (fun j h1 h2 => sm j _ (by omega) (by omega) (by omega)) (fun es he => he.mv (sm 2 _ (by omega) (by omega) (by omega)) (fun j k h1 h2 h3 => sm j _ (by omega) (by omega) (by omega)))
theorem sp_Q_keep {R' : RS} (hB : QI B) (hN : N = 3 ∨ N = 5) (hi : i < N) (hms : mS M < N) (hR : Rel N s S (some M)) (h1 : Rel N (cp (kpt s (5 * i + mS M) (s.1 27 (320 + mS M))) 69 (70 + (5 * i + mS M)) (mG M).length) (g_rep S i R') (some M)) :
    CS l D cid m_Q_keep [.ref (B 0), .int (nI i), .int (nI (mS M))] (hQ f B N s) (fun v f' => v = some (.int (cnt (kepE R') N)) ∧ f' = hQ f B N (cp (kpt s (5 * i + mS M) (s.1 27 (320 + mS M))) 69 (70 + (5 * i + mS M)) (mG M).length)) := by
  intro X hX
  have c7 := (msg_at hR).2.2.2.2.2.2
  have c71 : s.1 2 69 = nI (mG M).length := c7.1
  have hb := h1.2.2.2.1 i hi
  rw [g_rep_R] at hb
  have hsh := hb.2.2.2.2.2.2.2.2.2.2
  have loop : ∀ t, t ≤ N → ∀ (x3 : Option Value) (bc bs : Nat), FR l D cid m_Q_keep X 84 [some (.ref (B 0)), some (.int (nI i)), some (.int (nI (mS M))), x3, some (.int (cnt (kepE R') t)), some (.int (nI t))] [] (hQ f B N (cp (kpt s (5 * i + mS M) (s.1 27 (320 + mS M))) 69 (70 + (5 * i + mS M)) (mG M).length)) bc bs := by
    refine up_to ?_ ?_
    · intro x3 bc bs
      refine b_Q_keep_84 hX _ _ _ _ _ (i_iload rfl <| i_aload rfl <| q_getf hB rfl <| i_cmp_t (Int32.le_refl _) ?_)
      refine b_Q_keep_124 hX _ _ _ _ _ (i_iload rfl <| i_iret ?_)
      exact ⟨rfl, rfl⟩
    · intro t ht ih x3 bc bs
      simp only [nI_succ] at ih
      have h116 : ∀ (x : Int32) (y4 : Option Value) (bc bs : Nat), x = cnt (kepE R') (t + 1) → FR l D cid m_Q_keep X 116 [some (.ref (B 0)), some (.int (nI i)), some (.int (nI (mS M))), x3, y4, some (.int (nI t))] [.int x] (hQ f B N (cp (kpt s (5 * i + mS M) (s.1 27 (320 + mS M))) 69 (70 + (5 * i + mS M)) (mG M).length)) bc bs := by
        intro x y4 bc bs hx
        subst hx
        refine b_Q_keep_116 hX _ _ _ _ _ (i_istore <| i_iinc rfl <| i_end ?_)
        exact ih _ _ _
      have hst := hsh t ht
      refine b_Q_keep_84 hX _ _ _ _ _ (i_iload rfl <| i_aload rfl <| q_getf hB rfl <| i_cmp_f (nI_ge ht (by omega)) ?_)
      refine b_Q_keep_93 hX _ _ _ _ _ (i_aload rfl <| q_getf hB rfl <| i_push <| i_iload rfl <| i_bin <| i_iload rfl <| i_bin <| q_ald (c := 5 * i + t) hB (by first | rfl | simp only [nn_1, nn_5, nn_6, nn_24, nn_64, nn_69, nn_70, nn_320, nn_1656, nI_mul, nI_add]) (by show _ < 25; omega) <| i_if ?_ ?_)
      · intro h0
        refine b_Q_keep_114 hX _ _ _ _ _ (i_iload rfl <| i_end ?_)
        refine h116 _ _ _ _ ?_
        cases hk : kepE R' t with
        | none => simp [cnt, hk]
        | some m =>
          rw [hk] at hst
          exact absurd (hst.1.symm.trans h0) (by decide)
      · intro h0
        refine b_Q_keep_107 hX _ _ _ _ _ (i_iload rfl <| i_push <| i_bin <| i_end ?_)
        refine h116 _ _ _ _ ?_
        cases hk : kepE R' t with
        | none =>
          rw [hk] at hst
          exact absurd hst h0
        | some m => simp [cnt, hk]
  refine b_Q_keep_0 hX _ _ _ _ _ (i_push <| i_iload rfl <| i_bin <| i_iload rfl <| i_bin <| i_istore <| i_aload rfl <| q_getf hB rfl <| i_iload rfl <| i_push <| q_zst (c := 5 * i + mS M) hB (by first | rfl | simp only [nn_1, nn_5, nn_6, nn_24, nn_64, nn_69, nn_70, nn_320, nn_1656, nI_mul, nI_add]) (by show _ < 25; omega) <| i_aload rfl <| q_getf hB rfl <| i_iload rfl <| i_aload rfl <| q_getf hB rfl <| i_push <| i_iload rfl <| i_bin <| q_ald (c := 320 + mS M) hB (by first | rfl | simp only [nn_1, nn_5, nn_6, nn_24, nn_64, nn_69, nn_70, nn_320, nn_1656, nI_mul, nI_add]) (by show _ < 325; omega) <| q_ast (c := 5 * i + mS M) hB (by first | rfl | simp only [nn_1, nn_5, nn_6, nn_24, nn_64, nn_69, nn_70, nn_320, nn_1656, nI_mul, nI_add]) (by show _ < 25; omega) <| i_aload rfl <| q_getf hB rfl <| i_iload rfl <| i_aload rfl <| q_getf hB rfl <| i_push <| q_ald (c := 64) hB (by first | rfl | simp only [nn_1, nn_5, nn_6, nn_24, nn_64, nn_69, nn_70, nn_320, nn_1656, nI_mul, nI_add]) (by show _ < 65; omega) <| q_ast (c := 5 * i + mS M) hB (by first | rfl | simp only [nn_1, nn_5, nn_6, nn_24, nn_64, nn_69, nn_70, nn_320, nn_1656, nI_mul, nI_add]) (by show _ < 25; omega) <| i_aload rfl <| q_getf hB rfl <| i_iload rfl <| i_aload rfl <| q_getf hB rfl <| i_push <| q_ald (c := 64) hB (by first | rfl | simp only [nn_1, nn_5, nn_6, nn_24, nn_64, nn_69, nn_70, nn_320, nn_1656, nI_mul, nI_add]) (by show _ < 65; omega) <| q_ast (c := 5 * i + mS M) hB (by first | rfl | simp only [nn_1, nn_5, nn_6, nn_24, nn_64, nn_69, nn_70, nn_320, nn_1656, nI_mul, nI_add]) (by show _ < 25; omega) <| i_aload rfl <| q_getf hB rfl <| i_iload rfl <| i_aload rfl <| q_getf hB rfl <| i_push <| q_ald (c := 64) hB (by first | rfl | simp only [nn_1, nn_5, nn_6, nn_24, nn_64, nn_69, nn_70, nn_320, nn_1656, nI_mul, nI_add]) (by show _ < 65; omega) <| q_ast (c := 5 * i + mS M) hB (by first | rfl | simp only [nn_1, nn_5, nn_6, nn_24, nn_64, nn_69, nn_70, nn_320, nn_1656, nI_mul, nI_add]) (by show _ < 25; omega) <| i_aload rfl <| i_push <| i_push <| i_iload rfl <| i_bin <| ?_)
  simp only [nn_70, nn_5, nI_mul, nI_add]
  refine j_upV (q_this hB) (sp_Q_copy (a := 69) (b := 70 + (5 * i + mS M)) (L := (mG M).length) hB (by omega) (by omega) ?_ c7.2.1) rfl rfl ?_
  · exact c71
  · refine (i_push <| i_istore <| i_push <| i_istore <| i_end ?_)
    exact loop 0 (Nat.zero_le _) _ _ _
end QSC
