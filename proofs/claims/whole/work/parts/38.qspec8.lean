section QSH
variable {l : Launch} {D : va_G} {cid : Nat → ClassId} {f : HF} {B : Nat → Nat} {N n i : Nat} {s s' : QS} {S : GS} {o : Option Msg} {M : Msg}
theorem sp_Q_ok (hB : QI B) (hN : N = 3 ∨ N = 5) (hi : i < N) (hR : Rel N s S (some M)) (hI : Inv N n S) (hM : InvM N n M) (hd : mD M = i) (hn : n < 2 ^ 30) : CS l D cid m_Q_ok [.ref (B 0), .int (nI i), .int (nI (mS M))] (hQ f B N s) (PQ f B N none (g_ok N S i M) (some M)) := by
  intro X hX
  have hms := hM.1
  obtain ⟨c1, c2, c3, c4, c5, c6, c7⟩ := msg_at hR
  have c71 : s.1 2 69 = nI (mG M).length := c7.1
  have hml := c7.2.1
  obtain ⟨a1, a2, a3, a4, a5, a6, a7, a8, a9, a10, a11⟩ := hR.2.2.2.1 i hi
  have hIR := hI.1 i hi
  obtain ⟨vr, hvr, hvre⟩ := hIR.2.1
  have hack := inv_ack hIR hM hd
  have h32 : ¬ leads N (gR S i) i ∨ ¬ mV M = rV (gR S i) → ∀ (x3 x4 x5 x6 x7 : Option Value) (bc bs : Nat), FR l D cid m_Q_ok X 32 [some (.ref (B 0)), some (.int (nI i)), some (.int (nI (mS M))), x3, x4, x5, x6, x7] [] (hQ f B N s) bc bs := by
    intro hc x3 x4 x5 x6 x7 bc bs
    refine b_Q_ok_32 hX _ _ _ _ _ (i_ret ?_)
    refine ⟨rfl, s, rfl, ?_⟩
    rw [g_ok, if_pos hc]
    exact hR
  refine b_Q_ok_0 hX _ _ _ _ _ (i_aload rfl <| q_getf hB rfl <| i_push <| q_ald (c := 69) hB (by first | rfl | simp only [nn_1, nn_5, nn_6, nn_24, nn_64, nn_69, nn_70, nn_320, nn_1656, nI_mul, nI_add]) (by show _ < 95; omega) <| i_istore <| i_aload rfl <| i_iload rfl <| j_rdV (q_this hB) (sp_Q_leads (v := vr) hB hN (by omega) a1 a2 hvre (by omega)) rfl rfl <| i_ifb ?_ ?_)
  · intro hl
    exact h32 (Or.inl (of_decide_eq_false hl)) _ _ _ _ _ _ _
  · intro hl
    have hl' := of_decide_eq_true hl
    refine b_Q_ok_16 hX _ _ _ _ _ (i_aload rfl <| q_getf hB rfl <| i_push <| q_ald (c := 64) hB (by first | rfl | simp only [nn_1, nn_5, nn_6, nn_24, nn_64, nn_69, nn_70, nn_320, nn_1656, nI_mul, nI_add]) (by show _ < 65; omega) <| i_aload rfl <| q_getf hB rfl <| i_iload rfl <| q_ald (c := i) hB (by first | rfl | simp only [nn_1, nn_5, nn_6, nn_24, nn_64, nn_69, nn_70, nn_320, nn_1656, nI_mul, nI_add]) (by show _ < 5; omega) <| i_cmp ?_ ?_)
    · intro hv
      rw [c3, a2] at hv
      have hc : ¬ (¬ leads N (gR S i) i ∨ ¬ mV M = rV (gR S i)) := fun q => q.elim (fun z => z hl') (fun z => z hv)
      obtain ⟨k0, hk0, ek0⟩ := hIR.2.2.2.2.1
      have h70 : ∀ (x : Int32) (bc bs : Nat), x = mx (rA (gR S i) (mS M)) (nI (mG M).length) → FR l D cid m_Q_ok X 70 [some (.ref (B 0)), some (.int (nI i)), some (.int (nI (mS M))), some (.int (s.1 2 69)), none, none, none, none] [.int x, .int (5 * nI i + nI (mS M)), .ref (B 11)] (hQ f B N s) bc bs := by
        intro x bc bs hx
        have h1 := rel_ack (by omega) hi hms hR hx
        have hab : ∃ α : Nat → Nat, ∀ t, t < N → rA (r_ack (gR S i) M) t = nI (α t) ∧ α t ≤ 24 := by
          refine ⟨fun t => (rA (r_ack (gR S i) M) t).toNatClampNeg, fun t ht => ?_⟩
          obtain ⟨c, hc1, hc2⟩ := hack.2.2.2.2.2.1 t ht
          show rA (r_ack (gR S i) M) t = nI (rA (r_ack (gR S i) M) t).toNatClampNeg ∧ (rA (r_ack (gR S i) M) t).toNatClampNeg ≤ 24
          rw [hc2, nI_clamp (by omega)]
          exact ⟨rfl, hc1⟩
        obtain ⟨α, hα⟩ := hab
        have hαi : α i = 0 := by
          have h2 := hack.2.2.2.2.2.2.1
          rw [(hα i hi).1] at h2
          exact (nI_eq (by have := (hα i hi).2; omega) (by omega)).mp h2
        revert h1
        generalize hs1 : qw s 11 (5 * i + mS M) x = s1
        intro h1
        have hb := h1.2.2.2.1 i hi
        rw [g_rep_R] at hb
        obtain ⟨b1, b2, b3, b4, b5, b6, b7, b8, b9, b10, b11⟩ := hb
        have b4' : s1.1 9 i = nI k0 := b4.trans ek0
        have sm9 : ∀ (x : Int32) (j y : Nat), ¬ j = 9 → (qw s1 9 i x).1 j y = s1.1 j y := fun x j y hj => by rw [qw_a, if_neg (fun q => hj q.1)]
        have q9 : ∀ x : Int32, (qw s1 9 i x).1 9 i = x := fun x => by rw [qw_a, if_pos ⟨rfl, rfl⟩]
        have hakb : akb (rA (r_ack (gR S i) M)) N (nI (N / 2)) (rC (gR S i)) N = nI (cm α N (N / 2) k0 (24 - k0)) := by
          rw [ek0, akb_n (by omega) (by omega) hα hk0 N (Nat.le_refl _), kb_cm (by omega) (fun t ht => (hα t ht).2)]
        have hcm := cm_ok (α := α) (N := N) (F := N / 2) (k0 := k0) (24 - k0)
        have hlen := a5.2.1
        have hEok := hIR.2.2.2.1
        have loopA : ∀ (m k : Nat) (s3 : QS) (S3 : GS) (x3 x4 x6 x7 : Option Value) (bc bs : Nat), m = min (cm α N (N / 2) k0 (24 - k0)) (rG (gR S i)).length - k → k ≤ 25 → Rel N s3 S3 (some M) → gR S3 i = r_com (r_ack (gR S i) M) (nI (cm α N (N / 2) k0 (24 - k0))) → g_anss (rG (gR S i)) m (nI (k + 1)) S3 = g_ok N S i M → FR l D cid m_Q_ok X 182 [some (.ref (B 0)), some (.int (nI i)), some (.int (nI (mS M))), x3, x4, some (.int (nI k)), x6, x7] [] (hQ f B N s3) bc bs := by
          intro m
          induction m with
          | zero =>
            intro k s3 S3 x3 x4 x6 x7 bc bs hm hk25 h3 hg he
            have hb3 := h3.2.2.2.1 i hi
            rw [hg] at hb3
            obtain ⟨e1, e2, e3, e4, e5, e6⟩ := hb3
            have e5' : s3.1 2 i = nI (rG (gR S i)).length := e5.1
            have e4' : s3.1 9 i = nI (cm α N (N / 2) k0 (24 - k0)) := e4
            have fin : ∀ bc bs, FR l D cid m_Q_ok X 217 [some (.ref (B 0)), some (.int (nI i)), some (.int (nI (mS M))), x3, x4, some (.int (nI k)), x6, x7] [] (hQ f B N s3) bc bs := by
              intro bc bs
              refine b_Q_ok_217 hX _ _ _ _ _ (i_ret ?_)
              refine ⟨rfl, s3, rfl, ?_⟩
              rw [← he]
              exact h3
            rcases Nat.lt_or_ge k (cm α N (N / 2) k0 (24 - k0)) with hlt | hge
            · refine b_Q_ok_182 hX _ _ _ _ _ (i_iload rfl <| i_aload rfl <| q_getf hB rfl <| i_iload rfl <| q_ald (c := i) hB (by first | rfl | simp only [nn_1, nn_5, nn_6, nn_24, nn_64, nn_69, nn_70, nn_320, nn_1656, nI_mul, nI_add]) (by show _ < 5; omega) <| i_cmp_f (by rw [e4']; exact nI_ge hlt (by omega)) ?_)
              refine b_Q_ok_193 hX _ _ _ _ _ (i_iload rfl <| i_aload rfl <| q_getf hB rfl <| i_iload rfl <| q_ald (c := i) hB (by first | rfl | simp only [nn_1, nn_5, nn_6, nn_24, nn_64, nn_69, nn_70, nn_320, nn_1656, nI_mul, nI_add]) (by show _ < 95; omega) <| i_cmp_t (by rw [e5']; exact nI_le (by omega) (by omega)) ?_)
              exact fin _ _
            · refine b_Q_ok_182 hX _ _ _ _ _ (i_iload rfl <| i_aload rfl <| q_getf hB rfl <| i_iload rfl <| q_ald (c := i) hB (by first | rfl | simp only [nn_1, nn_5, nn_6, nn_24, nn_64, nn_69, nn_70, nn_320, nn_1656, nI_mul, nI_add]) (by show _ < 5; omega) <| i_cmp_t (by rw [e4']; exact nI_le hge (by omega)) ?_)
              exact fin _ _
          | succ m ih =>
            intro k s3 S3 x3 x4 x6 x7 bc bs hm hk25 h3 hg he
            have hb3 := h3.2.2.2.1 i hi
            rw [hg] at hb3
            obtain ⟨e1, e2, e3, e4, e5, e6⟩ := hb3
            have e5' : RowQ s3 i (rG (gR S i)) := e5
            have e4' : s3.1 9 i = nI (cm α N (N / 2) k0 (24 - k0)) := e4
            obtain ⟨cc, hcc, hce⟩ := hd_mem (c := nI (k + 1)) hEok
            have hcl : s3.1 3 (24 * i + k) = nI cc := (hd_fse e5' (by omega)).1.trans hce
            refine b_Q_ok_182 hX _ _ _ _ _ (i_iload rfl <| i_aload rfl <| q_getf hB rfl <| i_iload rfl <| q_ald (c := i) hB (by first | rfl | simp only [nn_1, nn_5, nn_6, nn_24, nn_64, nn_69, nn_70, nn_320, nn_1656, nI_mul, nI_add]) (by show _ < 5; omega) <| i_cmp_f (by rw [e4']; exact nI_ge (by omega) (by omega)) ?_)
            refine b_Q_ok_193 hX _ _ _ _ _ (i_iload rfl <| i_aload rfl <| q_getf hB rfl <| i_iload rfl <| q_ald (c := i) hB (by first | rfl | simp only [nn_1, nn_5, nn_6, nn_24, nn_64, nn_69, nn_70, nn_320, nn_1656, nI_mul, nI_add]) (by show _ < 95; omega) <| i_cmp_f (by rw [e5'.1]; exact nI_ge (by omega) (by omega)) ?_)
            refine b_Q_ok_204 hX _ _ _ _ _ (i_aload rfl <| i_iload rfl <| i_iload rfl <| j_upV (q_this hB) (sp_Q_answerTo (c := cc) hB (by omega) e5'.1 hlen (by omega) hcl hcc) rfl rfl <| i_iinc rfl <| i_end ?_)
            have hgr : rG (gR S3 i) = rG (gR S i) := by rw [hg]; rfl
            have h4 := rel_ans (k := k) (by omega) hi h3 (by rw [hgr]; omega) hcl hcc
            rw [hgr] at h4
            have hq := ih (k + 1) _ _ x3 x4 x6 x7 bc bs (by omega) (by omega) h4 (by
              rw [← hg]
              unfold g_ans
              split <;> rfl) (by rw [← he, g_anss, nI_succ (k + 1)])
            rw [nI_succ] at hq
            exact hq
        have h178 : ∀ (x3 x5 x6 x7 : Option Value) (bc bs : Nat), FR l D cid m_Q_ok X 178 [some (.ref (B 0)), some (.int (nI i)), some (.int (nI (mS M))), x3, some (.int (nI k0)), x5, x6, x7] [] (hQ f B N (qw s1 9 i (nI (cm α N (N / 2) k0 (24 - k0))))) bc bs := by
          intro x3 x5 x6 x7 bc bs
          have h2 := rel_com (c := nI (cm α N (N / 2) k0 (24 - k0))) (by omega) hi h1
          rw [g_rep_R, g_rep_rep] at h2
          refine b_Q_ok_178 hX _ _ _ _ _ (i_iload rfl <| i_istore <| i_end ?_)
          refine loopA _ k0 _ _ _ _ _ _ _ _ rfl (by omega) h2 (va_s _ _ _) ?_
          rw [g_ok, if_neg hc, hakb, ek0, nI_succ]
          have emn : (mn (nI (cm α N (N / 2) k0 (24 - k0))) (nI (rG (gR S i)).length)).toInt = ((min (cm α N (N / 2) k0 (24 - k0)) (rG (gR S i)).length : Nat) : Int) := by
            unfold mn
            by_cases hq : (rG (gR S i)).length < cm α N (N / 2) k0 (24 - k0)
            · rw [if_pos (nI_lt hq (by omega)), nI_toInt (by omega)]
              omega
            · rw [if_neg (nI_nlt (by omega) (by omega)), nI_toInt (by omega)]
              omega
          rw [emn, nI_toInt (by omega)]
          congr 1
          omega
        have loopK : ∀ d, d ≤ 24 - k0 → ∀ (x3 x6 x7 : Option Value) (bc bs : Nat), FR l D cid m_Q_ok X 85 [some (.ref (B 0)), some (.int (nI i)), some (.int (nI (mS M))), x3, some (.int (nI k0)), some (.int (nI (k0 + 1 + d))), x6, x7] [] (hQ f B N (qw s1 9 i (nI (cm α N (N / 2) k0 d)))) bc bs := by
          refine up_to ?_ ?_
          · intro x3 x6 x7 bc bs
            refine b_Q_ok_85 hX _ _ _ _ _ (i_iload rfl <| i_push <| i_cmp_t (nI_lt (a := 24) (by omega) (by omega)) ?_)
            exact h178 _ _ _ _ _ _
          · intro d hd' ih x3 x6 x7 bc bs
            have hcd := cm_ok (α := α) (N := N) (F := N / 2) (k0 := k0) d
            have h171 : ∀ (y : Nat) (x6 x7 : Option Value) (bc bs : Nat), y = cm α N (N / 2) k0 (d + 1) → FR l D cid m_Q_ok X 171 [some (.ref (B 0)), some (.int (nI i)), some (.int (nI (mS M))), x3, some (.int (nI k0)), some (.int (nI (k0 + 1 + d))), x6, x7] [.int (nI y), .int (nI i), .ref (B 9)] (hQ f B N (qw s1 9 i (nI (cm α N (N / 2) k0 d)))) bc bs := by
              intro y x6 x7 bc bs hy
              subst hy
              refine b_Q_ok_171 hX _ _ _ _ _ (q_ast (c := i) hB (by first | rfl | simp only [nn_1, nn_5, nn_6, nn_24, nn_64, nn_69, nn_70, nn_320, nn_1656, nI_mul, nI_add]) (by show _ < 5; omega) <| i_iinc rfl <| i_end ?_)
              rw [qw_qw, ← nI_succ]
              exact ih _ _ _ _ _
            have loopT : ∀ t, t ≤ N → ∀ (bc bs : Nat), FR l D cid m_Q_ok X 98 [some (.ref (B 0)), some (.int (nI i)), some (.int (nI (mS M))), x3, some (.int (nI k0)), some (.int (nI (k0 + 1 + d))), some (.int (nI (cn α (k0 + 1 + d) t))), some (.int (nI t))] [] (hQ f B N (qw s1 9 i (nI (cm α N (N / 2) k0 d)))) bc bs := by
              refine up_to ?_ ?_
              · intro bc bs
                have hcl := cn_le (α := α) (k0 + 1 + d) N
                refine b_Q_ok_98 hX _ _ _ _ _ (i_iload rfl <| i_aload rfl <| q_getf hB rfl <| i_cmp_t (Int32.le_refl _) ?_)
                refine b_Q_ok_146 hX _ _ _ _ _ (i_aload rfl <| q_getf hB rfl <| i_iload rfl <| i_iload rfl <| i_aload rfl <| q_getf hB rfl <| i_cmp ?_ ?_)
                · intro hlt
                  have hlt' := (nI_ltI (by omega) (by omega)).mp hlt
                  refine b_Q_ok_165 hX _ _ _ _ _ (i_aload rfl <| q_getf hB rfl <| i_iload rfl <| q_ald (c := i) hB (by first | rfl | simp only [nn_1, nn_5, nn_6, nn_24, nn_64, nn_69, nn_70, nn_320, nn_1656, nI_mul, nI_add]) (by show _ < 5; omega) <| i_end ?_)
                  rw [q9]
                  refine h171 _ _ _ _ _ ?_
                  rw [cm, if_neg (by rw [show k0 + d + 1 = k0 + 1 + d by omega]; omega)]
                · intro hge
                  have hge' : N / 2 ≤ cn α (k0 + 1 + d) N := by
                    rcases Nat.lt_or_ge (cn α (k0 + 1 + d) N) (N / 2) with h9 | h9
                    · exact absurd (nI_lt h9 (by omega)) hge
                    · exact h9
                  refine b_Q_ok_160 hX _ _ _ _ _ (i_iload rfl <| i_end ?_)
                  refine h171 _ _ _ _ _ ?_
                  rw [cm, if_pos (by rw [show k0 + d + 1 = k0 + 1 + d by omega]; exact hge')]
                  omega
              · intro t ht ihT bc bs
                simp only [nI_succ] at ihT
                have hcl := cn_le (α := α) (k0 + 1 + d) t
                have hαt := hα t ht
                have e11 : (qw s1 9 i (nI (cm α N (N / 2) k0 d))).1 11 (5 * i + t) = nI (α t) := (sm9 _ 11 _ (by decide)).trans ((b7 t ht).trans hαt.1)
                have h138 : ∀ (y : Int32) (x6 : Option Value) (bc bs : Nat), y = nI (cn α (k0 + 1 + d) (t + 1)) → FR l D cid m_Q_ok X 138 [some (.ref (B 0)), some (.int (nI i)), some (.int (nI (mS M))), x3, some (.int (nI k0)), some (.int (nI (k0 + 1 + d))), x6, some (.int (nI t))] [.int y] (hQ f B N (qw s1 9 i (nI (cm α N (N / 2) k0 d)))) bc bs := by
                  intro y x6 bc bs hy
                  subst hy
                  refine b_Q_ok_138 hX _ _ _ _ _ (i_istore <| i_iinc rfl <| i_end ?_)
                  exact ihT _ _
                refine b_Q_ok_98 hX _ _ _ _ _ (i_iload rfl <| i_aload rfl <| q_getf hB rfl <| i_cmp_f (nI_ge ht (by omega)) ?_)
                refine b_Q_ok_107 hX _ _ _ _ _ (i_iload rfl <| i_iload rfl <| i_cmp ?_ ?_)
                · intro he
                  have he' : t = i := (nI_eq (by omega) (by omega)).mp he
                  refine b_Q_ok_136 hX _ _ _ _ _ (i_iload rfl <| i_end ?_)
                  refine h138 _ _ _ _ ?_
                  rw [cn, if_neg (by rw [he', hαi]; omega)]
                · intro he
                  refine b_Q_ok_113 hX _ _ _ _ _ (i_aload rfl <| q_getf hB rfl <| i_push <| i_iload rfl <| i_bin <| i_iload rfl <| i_bin <| q_ald (c := 5 * i + t) hB (by first | rfl | simp only [nn_1, nn_5, nn_6, nn_24, nn_64, nn_69, nn_70, nn_320, nn_1656, nI_mul, nI_add]) (by show _ < 25; omega) <| i_iload rfl <| i_cmp ?_ ?_)
                  · intro hlt
                    rw [e11] at hlt
                    have hlt' := (nI_ltI (by omega) (by omega)).mp hlt
                    refine b_Q_ok_136 hX _ _ _ _ _ (i_iload rfl <| i_end ?_)
                    refine h138 _ _ _ _ ?_
                    rw [cn, if_neg (by omega)]
                  · intro hge
                    rw [e11] at hge
                    have hge' : k0 + 1 + d ≤ α t := by
                      rcases Nat.lt_or_ge (α t) (k0 + 1 + d) with h9 | h9
                      · exact absurd (nI_lt h9 (by omega)) hge
                      · exact h9
                    refine b_Q_ok_129 hX _ _ _ _ _ (i_iload rfl <| i_push <| i_bin <| i_end ?_)
                    refine h138 _ _ _ _ ?_
                    rw [cn, if_pos hge', nI_succ]
            refine b_Q_ok_85 hX _ _ _ _ _ (i_iload rfl <| i_push <| i_cmp_f (nI_nlt (b := k0 + 1 + d) (a := 24) (by omega) (by omega)) ?_)
            refine b_Q_ok_92 hX _ _ _ _ _ (i_push <| i_istore <| i_push <| i_istore <| i_end ?_)
            exact loopT 0 (Nat.zero_le _) _ _
        refine b_Q_ok_70 hX _ _ _ _ _ (q_ast (c := 5 * i + mS M) hB (by first | rfl | simp only [nn_1, nn_5, nn_6, nn_24, nn_64, nn_69, nn_70, nn_320, nn_1656, nI_mul, nI_add]) (by show _ < 25; omega) <| i_aload rfl <| q_getf hB rfl <| i_iload rfl <| q_ald (c := i) hB (by first | rfl | simp only [nn_1, nn_5, nn_6, nn_24, nn_64, nn_69, nn_70, nn_320, nn_1656, nI_mul, nI_add]) (by show _ < 5; omega) <| i_istore <| i_iload rfl <| i_push <| i_bin <| i_istore <| i_end ?_)
        rw [hs1, b4', ← nI_succ]
        have hq := loopK 0 (Nat.zero_le _) (some (.int (s.1 2 69))) none none
        have e0 : qw s1 9 i (nI (cm α N (N / 2) k0 0)) = s1 := qw_id b4'
        rw [e0] at hq
        exact hq _ _
      refine b_Q_ok_33 hX _ _ _ _ _ (i_aload rfl <| q_getf hB rfl <| i_push <| i_iload rfl <| i_bin <| i_iload rfl <| i_bin <| i_iload rfl <| i_aload rfl <| q_getf hB rfl <| i_push <| i_iload rfl <| i_bin <| i_iload rfl <| i_bin <| q_ald (c := 5 * i + mS M) hB (by first | rfl | simp only [nn_1, nn_5, nn_6, nn_24, nn_64, nn_69, nn_70, nn_320, nn_1656, nI_mul, nI_add]) (by show _ < 25; omega) <| i_cmp ?_ ?_)
      · intro hle
        rw [c71, a7 _ hms] at hle
        refine b_Q_ok_60 hX _ _ _ _ _ (i_aload rfl <| q_getf hB rfl <| i_push <| i_iload rfl <| i_bin <| i_iload rfl <| i_bin <| q_ald (c := 5 * i + mS M) hB (by first | rfl | simp only [nn_1, nn_5, nn_6, nn_24, nn_64, nn_69, nn_70, nn_320, nn_1656, nI_mul, nI_add]) (by show _ < 25; omega) <| i_end ?_)
        refine h70 _ _ _ ?_
        rw [a7 _ hms, ← mx_le, if_pos hle]
      · intro hle
        rw [c71, a7 _ hms] at hle
        refine b_Q_ok_56 hX _ _ _ _ _ (i_iload rfl <| i_end ?_)
        refine h70 _ _ _ ?_
        rw [c71, ← mx_le, if_neg hle]
    · intro hv
      rw [c3, a2] at hv
      exact h32 (Or.inr hv) _ _ _ _ _ _ _
end QSH
