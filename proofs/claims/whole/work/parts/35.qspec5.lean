section QSD
variable {l : Launch} {D : va_G} {cid : Nat → ClassId} {f : HF} {B : Nat → Nat} {N n i : Nat} {s s' : QS} {S : GS} {o : Option Msg} {M : Msg}
def acz (s : QS) (r n : Nat) : QS := (fun j x => if j = 11 ∧ 5 * r ≤ x ∧ x < 5 * r + n then 0 else s.1 j x, s.2)
theorem acz_a (s : QS) (r n j x : Nat) : (acz s r n).1 j x = if j = 11 ∧ 5 * r ≤ x ∧ x < 5 * r + n then 0 else s.1 j x := rfl
theorem acz_0 (s : QS) (r : Nat) : acz s r 0 = s := by
  refine QS_ext (fun j x => ?_) rfl
  rw [acz_a, if_neg (by omega)]
theorem acz_s (s : QS) (r n : Nat) : qw (acz s r n) 11 (5 * r + n) 0 = acz s r (n + 1) := by
  refine QS_ext (fun j x => ?_) rfl
  simp only [qw_a, acz_a]
  grind
theorem qw_id {j x : Nat} {v : Int32} (h : s.1 j x = v) : qw s j x v = s := by
  refine QS_ext (fun j' x' => ?_) rfl
  rw [qw_a]
  split
  · rename_i hc
    rw [hc.1, hc.2, h]
  · rfl
theorem qw_qw {j x : Nat} {v w : Int32} : qw (qw s j x v) j x w = qw s j x w := by
  refine QS_ext (fun j' x' => ?_) rfl
  simp only [qw_a]
  split <;> rfl
theorem sp_Q_paper (hB : QI B) (hN : N = 3 ∨ N = 5) (hi : i < N) (hR : Rel N s S (some M)) (hI : Inv N n S) (hM : InvM N n M) (hT : gT S < 2 ^ 28) : CS l D cid m_Q_paper [.ref (B 0), .int (nI i), .int (nI (mS M))] (hQ f B N s) (PQ f B N none (if mV M = rV (gR (g_join N S i M) i) ∧ rS (gR (g_join N S i M) i) = 1 then g_paper N (g_join N S i M) i M else g_join N S i M) (some M)) := by
  intro X hX
  have hms := hM.1
  have c3 := (msg_at hR).2.2.1
  have a2 := (hR.2.2.2.1 i hi).2.1
  have hTj := T_join (N := N) (S := S) (i := i) (m := M)
  have h24 : ∀ (s1 : QS) (x4 x5 x6 x7 : Option Value) (bc bs : Nat), Rel N s1 (g_join N S i M) (some M) → FR l D cid m_Q_paper X 24 [some (.ref (B 0)), some (.int (nI i)), some (.int (nI (mS M))), some (.int (mV M)), x4, x5, x6, x7] [] (hQ f B N s1) bc bs := by
    intro s1 x4 x5 x6 x7 bc bs h1
    obtain ⟨b1, b2, b3, b4, b5, b6, b7, b8, b9, b10, b11⟩ := h1.2.2.2.1 i hi
    have h57 : ∀ (s2 : QS) (bc bs : Nat), Rel N s2 (if mV M = rV (gR (g_join N S i M) i) ∧ rS (gR (g_join N S i M) i) = 1 then g_paper N (g_join N S i M) i M else g_join N S i M) (some M) → FR l D cid m_Q_paper X 57 [some (.ref (B 0)), some (.int (nI i)), some (.int (nI (mS M))), some (.int (mV M)), x4, x5, x6, x7] [] (hQ f B N s2) bc bs := by
      intro s2 bc bs h2
      refine b_Q_paper_57 hX _ _ _ _ _ (i_ret ?_)
      exact ⟨rfl, s2, rfl, h2⟩
    refine b_Q_paper_24 hX _ _ _ _ _ (i_iload rfl <| i_aload rfl <| q_getf hB rfl <| i_iload rfl <| q_ald (c := i) hB (by first | rfl | simp only [nn_1, nn_5, nn_6, nn_24, nn_64, nn_69, nn_70, nn_320, nn_1656, nI_mul, nI_add]) (by show _ < 5; omega) <| i_cmp ?_ ?_)
    · intro h
      rw [b2] at h
      exact h57 s1 _ _ (by rw [if_neg (fun q => h q.1)]; exact h1)
    · intro h
      have hv := Classical.not_not.mp h
      rw [b2] at hv
      refine b_Q_paper_34 hX _ _ _ _ _ (i_aload rfl <| q_getf hB rfl <| i_iload rfl <| q_ald (c := i) hB (by first | rfl | simp only [nn_1, nn_5, nn_6, nn_24, nn_64, nn_69, nn_70, nn_320, nn_1656, nI_mul, nI_add]) (by show _ < 5; omega) <| i_push <| i_cmp ?_ ?_)
      · intro hs
        rw [b1] at hs
        exact h57 s1 _ _ (by rw [if_neg (fun q => hs q.2)]; exact h1)
      · intro hs
        have hs' := Classical.not_not.mp hs
        rw [b1] at hs'
        have hc : mV M = rV (gR (g_join N S i M) i) ∧ rS (gR (g_join N S i M) i) = 1 := ⟨hv, hs'⟩
        have n2 : ¬ rS (gR (g_join N S i M) i) = 2 := fun q => absurd (hs'.symm.trans q) (by decide)
        have ke : kepE (r_pap (gR (g_join N S i M) i) M) = rE (r_pap (gR (g_join N S i M) i) M) := if_neg n2
        have h2 : Rel N (cp (kpt s1 (5 * i + mS M) (s1.1 27 (320 + mS M))) 69 (70 + (5 * i + mS M)) (mG M).length) (g_rep (g_join N S i M) i (r_pap (gR (g_join N S i M) i) M)) (some M) :=
          rel_keep (R' := r_pap (gR (g_join N S i M) i) M) (by omega) hi hms h1 rfl rfl rfl rfl rfl rfl rfl rfl rfl rfl (by
            rw [ke]
            show va_up (rE (gR (g_join N S i M) i)) (mS M) (some M) = va_up (kepE (gR (g_join N S i M) i)) (mS M) (some M)
            rw [show kepE (gR (g_join N S i M) i) = rE (gR (g_join N S i M) i) from if_neg n2])
        refine b_Q_paper_44 hX _ _ _ _ _ (i_aload rfl <| i_iload rfl <| i_iload rfl <| ?_)
        refine j_callV (q_this hB) (sp_Q_keep (R' := r_pap (gR (g_join N S i M) i) M) hB hN hi hms h1 h2) rfl rfl ?_
        rintro w F' ⟨rfl, rfl⟩
        rw [ke]
        revert h2
        generalize hsK : cp (kpt s1 (5 * i + mS M) (s1.1 27 (320 + mS M))) 69 (70 + (5 * i + mS M)) (mG M).length = sK
        intro h2
        refine (i_aload rfl <| q_getf hB rfl <| i_cmp ?_ ?_)
        · intro hge
          have hg : nI (N / 2) ≤ cnt (rE (r_pap (gR (g_join N S i M) i) M)) N := hge
          have hb := h2.2.2.2.1 i hi
          rw [g_rep_R] at hb
          obtain ⟨d1, d2, d3, d4, d5, d6, d7, d8, d9, d10, d11⟩ := hb
          rw [ke] at d11
          have sm9 : ∀ (x : Int32) (j y : Nat), ¬ j = 9 → (qw sK 9 i x).1 j y = sK.1 j y := fun x j y hj => by rw [qw_a, if_neg (fun q => hj q.1)]
          have loop : ∀ t, t ≤ N → ∀ (b : Nat) (y7 : Option Value) (bc bs : Nat), b < 95 → RowQ sK b (bst (rE (r_pap (gR (g_join N S i M) i) M)) (rG (gR (g_join N S i M) i), rL (gR (g_join N S i M) i), rC (gR (g_join N S i M) i)) t).1 → FR l D cid m_Q_paper X 72 [some (.ref (B 0)), some (.int (nI i)), some (.int (nI (mS M))), some (.int (mV M)), some (.int (nI b)), some (.int (bst (rE (r_pap (gR (g_join N S i M) i) M)) (rG (gR (g_join N S i M) i), rL (gR (g_join N S i M) i), rC (gR (g_join N S i M) i)) t).2.1), some (.int (nI t)), y7] [] (hQ f B N (qw sK 9 i (bst (rE (r_pap (gR (g_join N S i M) i) M)) (rG (gR (g_join N S i M) i), rL (gR (g_join N S i M) i), rC (gR (g_join N S i M) i)) t).2.2)) bc bs := by
            refine up_to ?_ ?_
            · intro b y7 bc bs hb95 hrow
              generalize hbt : bst (rE (r_pap (gR (g_join N S i M) i) M)) (rG (gR (g_join N S i M) i), rL (gR (g_join N S i M) i), rC (gR (g_join N S i M) i)) N = bb
              rw [hbt] at hrow
              have hL24 := hrow.2.1
              have fin : ∀ t, t ≤ N → ∀ (bc bs : Nat), FR l D cid m_Q_paper X 227 [some (.ref (B 0)), some (.int (nI i)), some (.int (nI (mS M))), some (.int (mV M)), some (.int (nI b)), some (.int bb.2.1), some (.int (nI t)), y7] [] (hQ f B N (acz (qw (qw (cp (qw sK 9 i bb.2.2) b i bb.1.length) 6 i 0) 8 i (mV M)) i t)) bc bs := by
                refine up_to ?_ ?_
                · intro bc bs
                  have rd : ∀ j y, (fg (acz (qw (qw (cp (qw sK 9 i bb.2.2) b i bb.1.length) 6 i 0) 8 i (mV M)) i N) i 5).1 j y = if (j = 14 ∨ j = 16) ∧ 5 * i ≤ y ∧ y < 5 * i + 5 then 0 else if j = 11 ∧ 5 * i ≤ y ∧ y < 5 * i + N then 0 else if j = 8 ∧ y = i then mV M else if j = 6 ∧ y = i then 0 else if j = 2 ∧ y = i then sK.1 2 b else if (3 ≤ j ∧ j ≤ 5) ∧ 24 * i ≤ y ∧ y < 24 * i + bb.1.length then sK.1 j (24 * b + (y - 24 * i)) else if j = 9 ∧ y = i then bb.2.2 else sK.1 j y := fun j y => by
                    rw [fg_a, acz_a, qw_a, qw_a, cp_a]
                    by_cases q1 : (j = 14 ∨ j = 16) ∧ 5 * i ≤ y ∧ y < 5 * i + 5
                    · rw [if_pos q1, if_pos q1]
                    · rw [if_neg q1, if_neg q1]
                      by_cases q2 : j = 11 ∧ 5 * i ≤ y ∧ y < 5 * i + N
                      · rw [if_pos q2, if_pos q2]
                      · rw [if_neg q2, if_neg q2]
                        by_cases q3 : j = 8 ∧ y = i
                        · rw [if_pos q3, if_pos q3]
                        · rw [if_neg q3, if_neg q3]
                          by_cases q4 : j = 6 ∧ y = i
                          · rw [if_pos q4, if_pos q4]
                          · rw [if_neg q4, if_neg q4]
                            by_cases q5 : j = 2 ∧ y = i
                            · rw [if_pos q5, if_pos q5, qw_a, if_neg (by omega)]
                            · rw [if_neg q5, if_neg q5]
                              by_cases q6 : (3 ≤ j ∧ j ≤ 5) ∧ 24 * i ≤ y ∧ y < 24 * i + bb.1.length
                              · rw [if_pos q6, if_pos q6, qw_a, if_neg (by omega)]
                              · rw [if_neg q6, if_neg q6, qw_a]
                  have hr1 : Rel N (fg (acz (qw (qw (cp (qw sK 9 i bb.2.2) b i bb.1.length) 6 i 0) 8 i (mV M)) i N) i 5) (g_rep (g_join N S i M) i (r_primary (r_pap (gR (g_join N S i M) i) M) N)) (some M) := by
                    have hbest : r_best (r_pap (gR (g_join N S i M) i) M) N = bb := hbt
                    have eP : r_primary (r_pap (gR (g_join N S i M) i) M) N = (0, rV (gR (g_join N S i M) i), rV (gR (g_join N S i M) i), bb.1, bb.2.2, rX (gR (g_join N S i M) i), fun _ => 0, rP (gR (g_join N S i M) i), noK, noK, noK, rN (gR (g_join N S i M) i)) := by
                      unfold r_primary
                      rw [hbest]
                      rfl
                    rw [eP, ← g_rep_rep (g_join N S i M) i (r_pap (gR (g_join N S i M) i) M)]
                    refine rel_new (by omega) hi h2 rfl (fun j y hy => ?_) ?_ ?_ ?_ ?_ ⟨?_, hL24, hrow.2.2.mv (fun j k q1 q2 q3 => ?_)⟩ (fun t ht => ?_) (fun t ht => ?_) ?_ ?_ (fun t ht => ?_) (fun t ht => ?_) rfl rfl
                    · unfold inR at hy
                      rw [rd, if_neg (by omega), if_neg (by omega), if_neg (by omega), if_neg (by omega), if_neg (by omega), if_neg (by omega), if_neg (by omega)]
                    · rw [rd, if_neg (by omega), if_neg (by omega), if_neg (by omega), if_pos (by omega)]
                    · rw [rd, if_neg (by omega), if_neg (by omega), if_neg (by omega), if_neg (by omega), if_neg (by omega), if_neg (by omega), if_neg (by omega)]
                      exact d2
                    · rw [rd, if_neg (by omega), if_neg (by omega), if_pos (by omega)]
                      exact hv
                    · rw [rd, if_neg (by omega), if_neg (by omega), if_neg (by omega), if_neg (by omega), if_neg (by omega), if_neg (by omega), if_pos (by omega)]
                    · rw [rd, if_neg (by omega), if_neg (by omega), if_neg (by omega), if_neg (by omega), if_pos (by omega)]
                      exact hrow.1
                    · have q3' : k < bb.1.length := q3
                      rw [rd, if_neg (by omega), if_neg (by omega), if_neg (by omega), if_neg (by omega), if_neg (by omega), if_pos (by omega), show 24 * b + (24 * i + k - 24 * i) = 24 * b + k by omega]
                    · rw [rd, if_neg (by omega), if_neg (by omega), if_neg (by omega), if_neg (by omega), if_neg (by omega), if_neg (by omega), if_neg (by omega)]
                      exact d6 t ht
                    · rw [rd, if_neg (by omega), if_pos (by omega)]
                    · rw [rd, if_neg (by omega), if_neg (by omega), if_neg (by omega), if_neg (by omega), if_neg (by omega), if_neg (by omega), if_neg (by omega)]
                      exact d8
                    · rw [rd, if_neg (by omega), if_neg (by omega), if_neg (by omega), if_neg (by omega), if_neg (by omega), if_neg (by omega), if_neg (by omega)]
                      exact d9
                    · rw [rd, if_pos (by omega)]
                    · rw [rd, if_pos (by omega)]
                  refine b_Q_paper_227 hX _ _ _ _ _ (i_iload rfl <| i_aload rfl <| q_getf hB rfl <| i_cmp_t (Int32.le_refl _) ?_)
                  refine b_Q_paper_254 hX _ _ _ _ _ (i_aload rfl <| i_iload rfl <| j_upV (q_this hB) (sp_Q_forget hB (by omega)) rfl rfl <| i_aload rfl <| i_iload rfl <| i_push <| ?_)
                  refine j_callV (q_this hB) (sp_Q_sendAll (what := 4) hB hN hi hr1 (by show gT (g_join N S i M) < _; omega)) rfl rfl ?_
                  rintro w F' ⟨rfl, s9, rfl, h9⟩
                  refine (i_ret ?_)
                  refine ⟨rfl, s9, rfl, ?_⟩
                  rw [if_pos hc, g_paper, if_pos hg]
                  exact h9
                · intro t ht ih bc bs
                  simp only [nI_succ] at ih
                  refine b_Q_paper_227 hX _ _ _ _ _ (i_iload rfl <| i_aload rfl <| q_getf hB rfl <| i_cmp_f (nI_ge ht (by omega)) ?_)
                  refine b_Q_paper_236 hX _ _ _ _ _ (i_aload rfl <| q_getf hB rfl <| i_push <| i_iload rfl <| i_bin <| i_iload rfl <| i_bin <| i_push <| q_ast (c := 5 * i + t) hB (by first | rfl | simp only [nn_1, nn_5, nn_6, nn_24, nn_64, nn_69, nn_70, nn_320, nn_1656, nI_mul, nI_add]) (by show _ < 25; omega) <| i_iinc rfl <| i_end ?_)
                  rw [acz_s]
                  exact ih _ _
              refine b_Q_paper_72 hX _ _ _ _ _ (i_iload rfl <| i_aload rfl <| q_getf hB rfl <| i_cmp_t (Int32.le_refl _) ?_)
              refine b_Q_paper_203 hX _ _ _ _ _ (i_aload rfl <| i_iload rfl <| i_iload rfl <| j_upV (q_this hB) (sp_Q_copy (a := b) (b := i) (L := bb.1.length) hB hb95 (by omega) ((sm9 _ 2 b (by decide)).trans hrow.1) hL24) rfl rfl <| i_aload rfl <| q_getf hB rfl <| i_iload rfl <| i_push <| q_ast (c := i) hB (by first | rfl | simp only [nn_1, nn_5, nn_6, nn_24, nn_64, nn_69, nn_70, nn_320, nn_1656, nI_mul, nI_add]) (by show _ < 5; omega) <| i_aload rfl <| q_getf hB rfl <| i_iload rfl <| i_iload rfl <| q_ast (c := i) hB (by first | rfl | simp only [nn_1, nn_5, nn_6, nn_24, nn_64, nn_69, nn_70, nn_320, nn_1656, nI_mul, nI_add]) (by show _ < 5; omega) <| i_push <| i_istore <| i_end ?_)
              have hf := fin 0 (Nat.zero_le _)
              rw [acz_0] at hf
              exact hf _ _
            · intro t ht ih b y7 bc bs hb95 hrow
              simp only [nI_succ] at ih
              have hot := d11 t ht
              have h197 : ∀ (b' : Nat) (bb : List Ent × Int32 × Int32) (z7 : Option Value) (bc bs : Nat), bb = bst (rE (r_pap (gR (g_join N S i M) i) M)) (rG (gR (g_join N S i M) i), rL (gR (g_join N S i M) i), rC (gR (g_join N S i M) i)) (t + 1) → b' < 95 → RowQ sK b' bb.1 → FR l D cid m_Q_paper X 197 [some (.ref (B 0)), some (.int (nI i)), some (.int (nI (mS M))), some (.int (mV M)), some (.int (nI b')), some (.int bb.2.1), some (.int (nI t)), z7] [] (hQ f B N (qw sK 9 i bb.2.2)) bc bs := by
                intro b' bb z7 bc bs hbb hb' hr'
                subst hbb
                refine b_Q_paper_197 hX _ _ _ _ _ (i_iinc rfl <| i_end ?_)
                exact ih b' z7 _ _ hb' hr'
              have hcI : (5 : Int32) * nI i + nI t = nI (5 * i + t) := by simp only [nn_5, nI_mul, nI_add]
              refine b_Q_paper_72 hX _ _ _ _ _ (i_iload rfl <| i_aload rfl <| q_getf hB rfl <| i_cmp_f (nI_ge ht (by omega)) ?_)
              cases hk : rE (r_pap (gR (g_join N S i M) i) M) t with
              | none =>
                rw [hk] at hot
                refine b_Q_paper_81 hX _ _ _ _ _ (i_push <| i_iload rfl <| i_bin <| i_iload rfl <| i_bin <| i_istore <| i_aload rfl <| q_getf hB rfl <| i_iload rfl <| q_ald (c := 5 * i + t) hB (by first | rfl | simp only [nn_1, nn_5, nn_6, nn_24, nn_64, nn_69, nn_70, nn_320, nn_1656, nI_mul, nI_add]) (by show _ < 25; omega) <| i_if_t ((sm9 _ 16 _ (by decide)).trans hot) ?_)
                have e := bst_n (b0 := (rG (gR (g_join N S i M) i), rL (gR (g_join N S i M) i), rC (gR (g_join N S i M) i))) hk
                have hq := h197 b _ (some (.int (5 * nI i + nI t))) bc bs e.symm hb95 hrow
                exact hq
              | some m =>
                rw [hk] at hot
                obtain ⟨o1, o2, o3, o4, o5, o6⟩ := hot
                have h136 : ∀ (x : Int32) (bc bs : Nat), x = mx (bst (rE (r_pap (gR (g_join N S i M) i) M)) (rG (gR (g_join N S i M) i), rL (gR (g_join N S i M) i), rC (gR (g_join N S i M) i)) t).2.2 (mC m) → FR l D cid m_Q_paper X 136 [some (.ref (B 0)), some (.int (nI i)), some (.int (nI (mS M))), some (.int (mV M)), some (.int (nI b)), some (.int (bst (rE (r_pap (gR (g_join N S i M) i) M)) (rG (gR (g_join N S i M) i), rL (gR (g_join N S i M) i), rC (gR (g_join N S i M) i)) t).2.1), some (.int (nI t)), some (.int (nI (5 * i + t)))] [.int x, .int (nI i), .ref (B 9)] (hQ f B N (qw sK 9 i (bst (rE (r_pap (gR (g_join N S i M) i) M)) (rG (gR (g_join N S i M) i), rL (gR (g_join N S i M) i), rC (gR (g_join N S i M) i)) t).2.2)) bc bs := by
                  intro x bc bs hx
                  have hn : ¬ ((bst (rE (r_pap (gR (g_join N S i M) i) M)) (rG (gR (g_join N S i M) i), rL (gR (g_join N S i M) i), rC (gR (g_join N S i M) i)) t).2.1 < mL m ∨ (mL m = (bst (rE (r_pap (gR (g_join N S i M) i) M)) (rG (gR (g_join N S i M) i), rL (gR (g_join N S i M) i), rC (gR (g_join N S i M) i)) t).2.1 ∧ nI (bst (rE (r_pap (gR (g_join N S i M) i) M)) (rG (gR (g_join N S i M) i), rL (gR (g_join N S i M) i), rC (gR (g_join N S i M) i)) t).1.length < nI (mG m).length)) → ∀ bc bs, FR l D cid m_Q_paper X 197 [some (.ref (B 0)), some (.int (nI i)), some (.int (nI (mS M))), some (.int (mV M)), some (.int (nI b)), some (.int (bst (rE (r_pap (gR (g_join N S i M) i) M)) (rG (gR (g_join N S i M) i), rL (gR (g_join N S i M) i), rC (gR (g_join N S i M) i)) t).2.1), some (.int (nI t)), some (.int (nI (5 * i + t)))] [] (hQ f B N (qw sK 9 i x)) bc bs := by
                    intro hc' bc bs
                    rw [hx]
                    exact h197 b _ _ bc bs (bst_m hk hc').symm hb95 hrow
                  have h181 : ((bst (rE (r_pap (gR (g_join N S i M) i) M)) (rG (gR (g_join N S i M) i), rL (gR (g_join N S i M) i), rC (gR (g_join N S i M) i)) t).2.1 < mL m ∨ (mL m = (bst (rE (r_pap (gR (g_join N S i M) i) M)) (rG (gR (g_join N S i M) i), rL (gR (g_join N S i M) i), rC (gR (g_join N S i M) i)) t).2.1 ∧ nI (bst (rE (r_pap (gR (g_join N S i M) i) M)) (rG (gR (g_join N S i M) i), rL (gR (g_join N S i M) i), rC (gR (g_join N S i M) i)) t).1.length < nI (mG m).length)) → ∀ bc bs, FR l D cid m_Q_paper X 181 [some (.ref (B 0)), some (.int (nI i)), some (.int (nI (mS M))), some (.int (mV M)), some (.int (nI b)), some (.int (bst (rE (r_pap (gR (g_join N S i M) i) M)) (rG (gR (g_join N S i M) i), rL (gR (g_join N S i M) i), rC (gR (g_join N S i M) i)) t).2.1), some (.int (nI t)), some (.int (nI (5 * i + t)))] [] (hQ f B N (qw sK 9 i x)) bc bs := by
                    intro hc' bc bs
                    refine b_Q_paper_181 hX _ _ _ _ _ (i_push <| i_iload rfl <| i_bin <| i_istore <| i_aload rfl <| q_getf hB rfl <| i_iload rfl <| q_ald (c := 5 * i + t) hB (by first | rfl | simp only [nn_1, nn_5, nn_6, nn_24, nn_64, nn_69, nn_70, nn_320, nn_1656, nI_mul, nI_add]) (by show _ < 25; omega) <| i_istore <| i_end ?_)
                    rw [sm9 _ 19 _ (by decide), o4, nn_70, nI_add, hx]
                    exact h197 (70 + (5 * i + t)) _ _ _ _ (bst_p hk hc').symm (by omega) o6
                  refine b_Q_paper_136 hX _ _ _ _ _ (q_ast (c := i) hB (by first | rfl | simp only [nn_1, nn_5, nn_6, nn_24, nn_64, nn_69, nn_70, nn_320, nn_1656, nI_mul, nI_add]) (by show _ < 5; omega) <| i_aload rfl <| q_getf hB rfl <| i_iload rfl <| q_ald (c := 5 * i + t) hB (by first | rfl | simp only [nn_1, nn_5, nn_6, nn_24, nn_64, nn_69, nn_70, nn_320, nn_1656, nI_mul, nI_add]) (by show _ < 25; omega) <| i_iload rfl <| i_cmp ?_ ?_)
                  · intro h
                    rw [qw_qw, sm9 _ 19 _ (by decide), o4] at h
                    rw [qw_qw]
                    exact h181 (Or.inl h) _ _
                  · intro h
                    rw [qw_qw, sm9 _ 19 _ (by decide), o4] at h
                    rw [qw_qw]
                    refine b_Q_paper_149 hX _ _ _ _ _ (i_aload rfl <| q_getf hB rfl <| i_iload rfl <| q_ald (c := 5 * i + t) hB (by first | rfl | simp only [nn_1, nn_5, nn_6, nn_24, nn_64, nn_69, nn_70, nn_320, nn_1656, nI_mul, nI_add]) (by show _ < 25; omega) <| i_iload rfl <| i_cmp ?_ ?_)
                    · intro h'
                      rw [sm9 _ 19 _ (by decide), o4] at h'
                      exact hn (fun q => q.elim h (fun z => h' z.1)) _ _
                    · intro h'
                      have h'' := Classical.not_not.mp h'
                      rw [sm9 _ 19 _ (by decide), o4] at h''
                      refine b_Q_paper_161 hX _ _ _ _ _ (i_aload rfl <| q_getf hB rfl <| i_push <| i_iload rfl <| i_bin <| q_ald (c := 70 + (5 * i + t)) hB (by first | rfl | simp only [nn_1, nn_5, nn_6, nn_24, nn_64, nn_69, nn_70, nn_320, nn_1656, nI_mul, nI_add]) (by show _ < 95; omega) <| i_aload rfl <| q_getf hB rfl <| i_iload rfl <| q_ald (c := b) hB (by first | rfl | simp only [nn_1, nn_5, nn_6, nn_24, nn_64, nn_69, nn_70, nn_320, nn_1656, nI_mul, nI_add]) (by show _ < 95; omega) <| i_cmp ?_ ?_)
                      · intro hle
                        rw [sm9 _ 2 _ (by decide), sm9 _ 2 _ (by decide), o6.1, hrow.1] at hle
                        exact hn (fun q => q.elim h (fun z => Int32.not_lt.mpr hle z.2)) _ _
                      · intro hle
                        rw [sm9 _ 2 _ (by decide), sm9 _ 2 _ (by decide), o6.1, hrow.1] at hle
                        exact h181 (Or.inr ⟨h'', Int32.not_le.mp hle⟩) _ _
                have q9 : ∀ x : Int32, (qw sK 9 i x).1 9 i = x := fun x => by rw [qw_a, if_pos ⟨rfl, rfl⟩]
                refine b_Q_paper_81 hX _ _ _ _ _ (i_push <| i_iload rfl <| i_bin <| i_iload rfl <| i_bin <| i_istore <| i_aload rfl <| q_getf hB rfl <| i_iload rfl <| q_ald (c := 5 * i + t) hB (by first | rfl | simp only [nn_1, nn_5, nn_6, nn_24, nn_64, nn_69, nn_70, nn_320, nn_1656, nI_mul, nI_add]) (by show _ < 25; omega) <| i_if_f (fun q => absurd (o1.symm.trans ((sm9 _ 16 _ (by decide)).symm.trans q)) (by decide)) ?_)
                rw [hcI]
                refine b_Q_paper_99 hX _ _ _ _ _ (i_aload rfl <| q_getf hB rfl <| i_iload rfl <| i_aload rfl <| q_getf hB rfl <| i_iload rfl <| q_ald (c := 5 * i + t) hB (by first | rfl | simp only [nn_1, nn_5, nn_6, nn_24, nn_64, nn_69, nn_70, nn_320, nn_1656, nI_mul, nI_add]) (by show _ < 25; omega) <| i_aload rfl <| q_getf hB rfl <| i_iload rfl <| q_ald (c := i) hB (by first | rfl | simp only [nn_1, nn_5, nn_6, nn_24, nn_64, nn_69, nn_70, nn_320, nn_1656, nI_mul, nI_add]) (by show _ < 5; omega) <| i_cmp ?_ ?_)
                · intro hle
                  rw [sm9 _ 20 _ (by decide), o5, q9] at hle
                  refine b_Q_paper_130 hX _ _ _ _ _ (i_aload rfl <| q_getf hB rfl <| i_iload rfl <| q_ald (c := i) hB (by first | rfl | simp only [nn_1, nn_5, nn_6, nn_24, nn_64, nn_69, nn_70, nn_320, nn_1656, nI_mul, nI_add]) (by show _ < 5; omega) <| i_end ?_)
                  refine h136 _ _ _ ?_
                  rw [q9, ← mx_le, if_pos hle]
                · intro hle
                  rw [sm9 _ 20 _ (by decide), o5, q9] at hle
                  refine b_Q_paper_120 hX _ _ _ _ _ (i_aload rfl <| q_getf hB rfl <| i_iload rfl <| q_ald (c := 5 * i + t) hB (by first | rfl | simp only [nn_1, nn_5, nn_6, nn_24, nn_64, nn_69, nn_70, nn_320, nn_1656, nI_mul, nI_add]) (by show _ < 25; omega) <| i_end ?_)
                  refine h136 _ _ _ ?_
                  rw [sm9 _ 20 _ (by decide), o5, ← mx_le, if_neg hle]
          refine b_Q_paper_58 hX _ _ _ _ _ (i_iload rfl <| i_istore <| i_aload rfl <| q_getf hB rfl <| i_iload rfl <| q_ald (c := i) hB (by first | rfl | simp only [nn_1, nn_5, nn_6, nn_24, nn_64, nn_69, nn_70, nn_320, nn_1656, nI_mul, nI_add]) (by show _ < 5; omega) <| i_istore <| i_push <| i_istore <| i_end ?_)
          have hq := loop 0 (Nat.zero_le _) i x7
          have e0 : qw sK 9 i (bst (rE (r_pap (gR (g_join N S i M) i) M)) (rG (gR (g_join N S i M) i), rL (gR (g_join N S i M) i), rC (gR (g_join N S i M) i)) 0).2.2 = sK := qw_id d4
          rw [e0] at hq
          rw [d3]
          exact hq _ _ (by omega) d5
        · intro hlt
          refine h57 sK _ _ ?_
          rw [if_pos hc, g_paper, if_neg hlt]
          exact h2
  refine b_Q_paper_0 hX _ _ _ _ _ (i_aload rfl <| q_getf hB rfl <| i_push <| q_ald (c := 64) hB (by first | rfl | simp only [nn_1, nn_5, nn_6, nn_24, nn_64, nn_69, nn_70, nn_320, nn_1656, nI_mul, nI_add]) (by show _ < 65; omega) <| i_istore <| i_iload rfl <| i_aload rfl <| q_getf hB rfl <| i_iload rfl <| q_ald (c := i) hB (by first | rfl | simp only [nn_1, nn_5, nn_6, nn_24, nn_64, nn_69, nn_70, nn_320, nn_1656, nI_mul, nI_add]) (by show _ < 5; omega) <| i_cmp ?_ ?_)
  · intro h
    rw [c3, a2] at h
    rw [c3]
    refine h24 s _ _ _ _ _ _ ?_
    rw [g_join, if_neg (Int32.not_lt.mpr h)]
    exact hR
  · intro h
    rw [c3, a2] at h
    rw [c3]
    refine b_Q_paper_18 hX _ _ _ _ _ (i_aload rfl <| i_iload rfl <| i_iload rfl <| ?_)
    refine j_callV (q_this hB) (sp_Q_start (v := mV M) hB hN hi hR (by omega)) rfl rfl ?_
    rintro w F' ⟨rfl, s1, rfl, h1⟩
    refine (i_end ?_)
    refine h24 s1 _ _ _ _ _ _ ?_
    rw [g_join, if_pos (Int32.not_le.mp h)]
    exact h1
end QSD
