section SPQ
variable {l : Launch} {D : va_G} {cid : Nat → ClassId} {Z : Nat → Prop} {f : HF} {A : Nat → Nat} {N i : Nat} {cs : Nat → PC} {R : RS}
theorem sp_raiseVector {wa : Nat} {w : Nat → Int32} (hE : En Z A N f) (hi : i < N) (hN : N ≤ 5) (hR : RepC Z f A N cs i R) (hw : VecR Z f N wa w) :
    CS l D cid m_P_raiseVector [.ref (A (5 + 5 * i)), .ref wa] (hC (5 + 5 * N) A f cs) (fun v f' => v = none ∧ ∃ f1 cs', f' = hC (5 + 5 * N) A f1 cs' ∧ Ext f f1 ∧ (∀ k, k ≠ 5 + 5 * i → cs' k = cs k) ∧ RepC Z f1 A N cs' i (r_vec R w)) := by
  intro X hX
  have hA := hE.1
  have h5 : 5 + 5 * i < 5 + 5 * N := by omega
  obtain ⟨la, va, h1, h2, ⟨vz, g, hg, hg'⟩, h4, k1, k2, k3, h8, h9⟩ := hR
  obtain ⟨wz, gw, hgw, hgw'⟩ := hw
  refine b_P_raiseVector_0 hX _ _ _ _ _ (i_aload rfl <| i_getf (c_cell hA h5 h1) rfl <| i_clone (hE.im _ _ vz hg) ⟨Nat.le_refl 1, hN⟩ fun q1 hq1 => i_castI (hup_s _ _ _) <| i_astore <| i_push <| i_istore <| i_end ?_)
  obtain ⟨hqz, hqn⟩ := hE.no hq1
  have hqA := (hC_none hq1).1
  rw [hC_new hq1]
  have hwq : wa ≠ q1 := fun e => by rw [e, hqn] at hgw; cases hgw
  have loop : ∀ t, t ≤ N → ∀ g1 : Nat → Int32, (∀ s, s < N → g1 s = if s < t then mx (g s) (gw s) else g s) → ∀ bc bs, FR l D cid m_P_raiseVector X 13 [some (.ref (A (5 + 5 * i))), some (.ref wa), some (.ref q1), some (.int (nI t))] [] (hC (5 + 5 * N) A (hup f q1 (.inr (.inl (0, N, g1)))) cs) bc bs := by
    refine up_to ?_ ?_
    · intro g1 hg1 bc bs
      refine b_P_raiseVector_13 hX _ _ _ _ _ (i_iload rfl <| i_aload rfl <| i_alen ((hC_no hqA).trans (hup_s _ _ _)) <| i_cmp_t (Int32.le_refl _) ?_)
      refine b_P_raiseVector_37 hX _ _ _ _ _ (i_aload rfl <| i_aload rfl <| c_putR hA h5 h1 rfl <| i_ret ?_)
      have hX1 : Ext f (hup f q1 (.inr (.inl (0, N, g1)))) := Ext.new hqn
      refine ⟨rfl, _, _, rfl, hX1, fun k hk => va_n hk, la, q1, ?_, h2.fm (fun a c _ q => hX1 a c q), ⟨hqz, g1, hup_s _ _ _, fun t ht => ?_⟩, h4.fm (va_n (by omega)), k1.fm hX1 (va_n (by omega)), k2.fm hX1 (va_n (by omega)), k3.fm hX1 (va_n (by omega)), h8, h9⟩
      · rw [va_s]
        rfl
      · rw [hg1 t ht, if_pos ht, hg' t ht, hgw' t ht]
        rfl
    · intro t ht ih g1 hg1 bc bs
      simp only [nI_succ] at ih
      refine b_P_raiseVector_13 hX _ _ _ _ _ (i_iload rfl <| i_aload rfl <| i_alen ((hC_no hqA).trans (hup_s _ _ _)) <| i_cmp_f (nI_ge ht (by omega)) ?_)
      refine b_P_raiseVector_19 hX _ _ _ _ _ (i_aload rfl <| i_iload rfl <| i_aload rfl <| i_iload rfl <| i_ald ((hC_no hqA).trans (hup_s _ _ _)) ⟨rfl, ht, by omega⟩ <| i_aload rfl <| i_iload rfl <| i_ald ((hE.ext (Ext.new hqn)).im _ _ wz ((hup_n hwq).trans hgw)) ⟨rfl, ht, by omega⟩ <| j_rdS (sp_max) rfl rfl <| i_ast ((hC_no hqA).trans (hup_s _ _ _)) ⟨rfl, ht, by omega⟩ <| i_iinc rfl <| i_end ?_)
      rw [hC_own hqA]
      refine ih _ (fun s hs => ?_) _ _
      by_cases e : s = t
      · rw [e, upd_s, if_pos (by omega), hg1 t ht, if_neg (by omega)]
      · rw [upd_n e, hg1 s hs]
        by_cases h' : s < t
        · rw [if_pos h', if_pos (by omega)]
        · rw [if_neg h', if_neg (by omega)]
  exact loop 0 (Nat.zero_le _) g (fun s hs => by rw [if_neg (by omega)]) _ _
theorem sp_dropOutdated {k la va : Nat} {km : KM} (hE : En Z A N f) (hi : i < N) (hN : N ≤ 5) (hk : k < 5 + 5 * N) (hk5 : k ≠ 5 + 5 * i) (ho : cs (5 + 5 * i) = .inl (2, robj A i la va R)) (hv : VecR Z f N va (rX R)) (hkm : KepC Z f cs N k km) :
    CS l D cid m_P_dropOutdated [.ref (A (5 + 5 * i)), .ref (A k)] (hC (5 + 5 * N) A f cs) (fun v f' => v = none ∧ ∃ cs', f' = hC (5 + 5 * N) A f cs' ∧ (∀ k', k' ≠ k → cs' k' = cs k') ∧ KepC Z f cs' N k (drp km (rX R))) := by
  intro X hX
  have hA := hE.1
  have h5 : 5 + 5 * i < 5 + 5 * N := by omega
  obtain ⟨vz, gv, hgv, hgv'⟩ := hv
  obtain ⟨g, hg, hg'⟩ := hkm
  have loop : ∀ t, t ≤ N → ∀ g1 : Nat → Option Nat, (∀ s, s < N → OptR Z f N (g1 s) (if s < t then drp km (rX R) s else km s)) → ∀ bc bs, FR l D cid m_P_dropOutdated X 2 [some (.ref (A (5 + 5 * i))), some (.ref (A k)), some (.int (nI t))] [] (hC (5 + 5 * N) A f (va_up cs k (.inr (.inr (2, N, g1))))) bc bs := by
    refine up_to ?_ ?_
    · intro g1 hg1 bc bs
      refine b_P_dropOutdated_2 hX _ _ _ _ _ (i_iload rfl <| i_aload rfl <| i_alenq (c_cell hA hk (va_s _ _ _)) <| i_cmp_t (Int32.le_refl _) ?_)
      refine b_P_dropOutdated_41 hX _ _ _ _ _ (i_ret ?_)
      refine ⟨rfl, _, rfl, fun k' h => va_n h, g1, va_s _ _ _, fun t ht => ?_⟩
      have h := hg1 t ht
      rw [if_pos ht] at h
      exact h
    · intro t ht ih g1 hg1 bc bs
      simp only [nI_succ] at ih
      have h35 : ∀ g2 : Nat → Option Nat, (∀ s, s < N → OptR Z f N (g2 s) (if s < t + 1 then drp km (rX R) s else km s)) → ∀ bc bs, FR l D cid m_P_dropOutdated X 35 [some (.ref (A (5 + 5 * i))), some (.ref (A k)), some (.int (nI t))] [] (hC (5 + 5 * N) A f (va_up cs k (.inr (.inr (2, N, g2))))) bc bs := by
        intro g2 hg2 bc bs
        refine b_P_dropOutdated_35 hX _ _ _ _ _ (i_iinc rfl <| i_end ?_)
        exact ih g2 hg2 _ _
      have hot := hg1 t ht
      rw [if_neg (by omega)] at hot
      refine b_P_dropOutdated_2 hX _ _ _ _ _ (i_iload rfl <| i_aload rfl <| i_alenq (c_cell hA hk (va_s _ _ _)) <| i_cmp_f (nI_ge ht (by omega)) ?_)
      refine b_P_dropOutdated_8 hX _ _ _ _ _ (i_aload rfl <| i_iload rfl <| i_aldq (c_cell hA hk (va_s _ _ _)) ⟨rfl, ht, by omega⟩ <| i_null_v ?_ ?_)
      · intro hn
        refine h35 g1 (fun s hs => ?_) _ _
        by_cases e : s = t
        · subst e
          rw [if_pos (by omega)]
          cases hkt : km s with
          | none => rw [drp_n hkt, hn]; exact trivial
          | some m => rw [hn, hkt] at hot; exact hot.elim
        · have h := hg1 s hs
          by_cases h' : s < t
          · rw [if_pos h'] at h
            rw [if_pos (by omega)]
            exact h
          · rw [if_neg h'] at h
            rw [if_neg (by omega)]
            exact h
      · intro q hq
        cases hkt : km t with
        | none => rw [hq, hkt] at hot; exact hot.elim
        | some m =>
          rw [hq, hkt] at hot
          obtain ⟨mz, mva, mla, hm1, ⟨mvz, gm, hgm, hgm'⟩, hm3, hm4⟩ := id hot
          refine b_P_dropOutdated_14 hX _ _ _ _ _ (i_aload rfl <| i_iload rfl <| i_aldq' (c_cell hA hk (va_s _ _ _)) (⟨⟨rfl, ht, by omega⟩, congrArg va_rf hq⟩) <| i_getf (hE.im _ _ mz hm1) rfl <| i_iload rfl <| i_ald (hE.im _ _ mvz hgm) ⟨rfl, ht, by omega⟩ <| i_aload rfl <| i_getf (c_cell hA h5 ((va_n hk5.symm).trans ho)) rfl <| i_iload rfl <| i_ald (hE.im _ _ vz hgv) ⟨rfl, ht, by omega⟩ <| i_cmp ?_ ?_)
          · intro hle
            refine h35 g1 (fun s hs => ?_) _ _
            by_cases e : s = t
            · subst e
              rw [if_pos (by omega), drp_s hkt, if_neg, hq]
              · exact hot
              · rw [← hgv' s ht, ← hgm' s ht]
                exact Int32.not_lt.mpr hle
            · have h := hg1 s hs
              by_cases h' : s < t
              · rw [if_pos h'] at h
                rw [if_pos (by omega)]
                exact h
              · rw [if_neg h'] at h
                rw [if_neg (by omega)]
                exact h
          · intro hgt
            refine b_P_dropOutdated_31 hX _ _ _ _ _ (i_aload rfl <| i_iload rfl <| i_push <| c_astq_n hA hk (va_s _ _ _) ⟨rfl, ht, by omega⟩ <| i_end ?_)
            rw [va_va]
            refine h35 (va_up g1 t none) (fun s hs => ?_) _ _
            by_cases e : s = t
            · subst e
              rw [if_pos (by omega), drp_s hkt, if_pos, va_s]
              · exact trivial
              · rw [← hgv' s ht, ← hgm' s ht]
                exact Int32.not_le.mp hgt
            · rw [va_n e]
              have h := hg1 s hs
              by_cases h' : s < t
              · rw [if_pos h'] at h
                rw [if_pos (by omega)]
                exact h
              · rw [if_neg h'] at h
                rw [if_neg (by omega)]
                exact h
  refine b_P_dropOutdated_0 hX _ _ _ _ _ (i_push <| i_istore <| i_end ?_)
  have h := loop 0 (Nat.zero_le _) g (fun s hs => by rw [if_neg (by omega)]; exact hg' s hs)
  rw [va_id hg] at h
  exact h _ _
theorem sp_forgetOutdated (hE : En Z A N f) (hi : i < N) (hN : N ≤ 5) (hR : RepC Z f A N cs i R) :
    CS l D cid m_P_forgetOutdated [.ref (A (5 + 5 * i))] (hC (5 + 5 * N) A f cs) (fun v f' => v = none ∧ ∃ cs', f' = hC (5 + 5 * N) A f cs' ∧ (∀ k, ¬ W5 i k → cs' k = cs k) ∧ RepC Z f A N cs' i (r_drop R)) := by
  intro X hX
  have hA := hE.1
  have h5 : 5 + 5 * i < 5 + 5 * N := by omega
  obtain ⟨la, va, h1, h2, h3, h4, k1, k2, k3, h8, h9⟩ := hR
  refine b_P_forgetOutdated_0 hX _ _ _ _ _ (i_aload rfl <| i_aload rfl <| i_getf (c_cell hA h5 h1) rfl <| ?_)
  refine j_callV (c_cell hA h5 h1) (sp_dropOutdated (k := 7 + 5 * i) (R := R) hE hi hN (by omega) (by omega) h1 h3 k1) rfl rfl ?_
  rintro w f' ⟨rfl, c1, rfl, s1, n1⟩
  have h1' : c1 (5 + 5 * i) = .inl (2, robj A i la va R) := (s1 _ (by omega)).trans h1
  refine (i_aload rfl <| i_aload rfl <| i_getf (c_cell hA h5 h1') rfl <| ?_)
  refine j_callV (c_cell hA h5 h1') (sp_dropOutdated (k := 8 + 5 * i) (R := R) hE hi hN (by omega) (by omega) h1' h3 (k2.fm (ext_r f) (s1 _ (by omega)))) rfl rfl ?_
  rintro w f' ⟨rfl, c2, rfl, s2, n2⟩
  have h1'' : c2 (5 + 5 * i) = .inl (2, robj A i la va R) := (s2 _ (by omega)).trans h1'
  refine (i_aload rfl <| i_aload rfl <| i_getf (c_cell hA h5 h1'') rfl <| ?_)
  refine j_callV (c_cell hA h5 h1'') (sp_dropOutdated (k := 9 + 5 * i) (R := R) hE hi hN (by omega) (by omega) h1'' h3 (k3.fm (ext_r f) ((s2 _ (by omega)).trans (s1 _ (by omega))))) rfl rfl ?_
  rintro w f' ⟨rfl, c3, rfl, s3, n3⟩
  refine (i_ret ?_)
  refine ⟨rfl, c3, rfl, fun k hk => ?_, la, va, (s3 _ (by omega)).trans h1'', h2, h3, h4.fm ((s3 _ (by omega)).trans ((s2 _ (by omega)).trans (s1 _ (by omega)))), n1.fm (ext_r f) ((s3 _ (by omega)).trans (s2 _ (by omega))), n2.fm (ext_r f) (s3 _ (by omega)), n3, h8, h9⟩
  simp only [W5] at hk
  rw [s3 k (by omega), s2 k (by omega), s1 k (by omega)]
theorem sp_countAcked {la va : Nat} {e : Int32} {g a : Nat → Int32} (hA : AI (5 + 5 * N) A) (hi : i < N) (hN : N ≤ 5) (ho : cs (5 + 5 * i) = .inl (2, robj A i la va R)) (hg : cs (6 + 5 * i) = .inr (.inl (0, N, g))) (hga : ∀ t, t < N → g t = a t) :
    CS l D cid m_P_countAcked [.ref (A (5 + 5 * i)), .int e] (hC (5 + 5 * N) A f cs) (fun v f' => v = some (.int (cak a e N)) ∧ f' = hC (5 + 5 * N) A f cs) := by
  intro X hX
  have h5 : 5 + 5 * i < 5 + 5 * N := by omega
  have h10 : 6 + 5 * i < 5 + 5 * N := by omega
  have loop : ∀ t, t ≤ N → ∀ bc bs, FR l D cid m_P_countAcked X 4 [some (.ref (A (5 + 5 * i))), some (.int e), some (.int (cak a e t)), some (.int (nI t))] [] (hC (5 + 5 * N) A f cs) bc bs := by
    refine up_to ?_ ?_
    · intro bc bs
      refine b_P_countAcked_4 hX _ _ _ _ _ (i_iload rfl <| i_aload rfl <| i_getf (c_cell hA h5 ho) rfl <| i_alen (c_cell hA h10 hg) <| i_cmp_t (Int32.le_refl _) ?_)
      refine b_P_countAcked_32 hX _ _ _ _ _ (i_iload rfl <| i_iret ?_)
      exact ⟨rfl, rfl⟩
    · intro t ht ih bc bs
      simp only [nI_succ] at ih
      refine b_P_countAcked_4 hX _ _ _ _ _ (i_iload rfl <| i_aload rfl <| i_getf (c_cell hA h5 ho) rfl <| i_alen (c_cell hA h10 hg) <| i_cmp_f (nI_ge ht (by omega)) ?_)
      have h26 : ∀ x, x = cak a e (t + 1) → ∀ bc bs, FR l D cid m_P_countAcked X 26 [some (.ref (A (5 + 5 * i))), some (.int e), some (.int x), some (.int (nI t))] [] (hC (5 + 5 * N) A f cs) bc bs := by
        intro x hx bc bs
        subst hx
        refine b_P_countAcked_26 hX _ _ _ _ _ (i_iinc rfl <| i_end ?_)
        exact ih _ _
      refine b_P_countAcked_13 hX _ _ _ _ _ (i_aload rfl <| i_getf (c_cell hA h5 ho) rfl <| i_iload rfl <| i_ald (c_cell hA h10 hg) ⟨rfl, ht, by omega⟩ <| i_iload rfl <| i_cmp ?_ ?_)
      · intro h
        refine h26 _ ?_ _ _
        rw [cak, if_neg]
        rw [← hga t ht]
        exact Int32.not_le.mpr h
      · intro h
        refine b_P_countAcked_23 hX _ _ _ _ _ (i_iinc rfl <| i_end ?_)
        refine h26 _ ?_ _ _
        rw [cak, if_pos]
        rw [← hga t ht]
        exact Int32.not_lt.mp h
  refine b_P_countAcked_0 hX _ _ _ _ _ (i_push <| i_istore <| i_push <| i_istore <| i_end ?_)
  exact loop 0 (Nat.zero_le _) _ _
theorem sp_ackedBy {la va : Nat} {e : Int32} {g a : Nat → Int32} (hA : AI (5 + 5 * N) A) (hi : i < N) (hN : N ≤ 5) (ho : cs (5 + 5 * i) = .inl (2, robj A i la va R)) (hg : cs (6 + 5 * i) = .inr (.inl (0, N, g))) (hga : ∀ t, t < N → g t = a t) :
    CS l D cid m_P_ackedBy [.ref (A (5 + 5 * i)), .int e] (hC (5 + 5 * N) A f cs) (fun v f' => v = some (.int (akb a N e (rC R) N)) ∧ f' = hC (5 + 5 * N) A f cs) := by
  intro X hX
  have h5 : 5 + 5 * i < 5 + 5 * N := by omega
  have h10 : 6 + 5 * i < 5 + 5 * N := by omega
  have loop : ∀ t, t ≤ N → ∀ bc bs, FR l D cid m_P_ackedBy X 7 [some (.ref (A (5 + 5 * i))), some (.int e), some (.int (akb a N e (rC R) t)), some (.int (nI t))] [] (hC (5 + 5 * N) A f cs) bc bs := by
    refine up_to ?_ ?_
    · intro bc bs
      refine b_P_ackedBy_7 hX _ _ _ _ _ (i_iload rfl <| i_aload rfl <| i_getf (c_cell hA h5 ho) rfl <| i_alen (c_cell hA h10 hg) <| i_cmp_t (Int32.le_refl _) ?_)
      refine b_P_ackedBy_53 hX _ _ _ _ _ (i_iload rfl <| i_iret ?_)
      exact ⟨rfl, rfl⟩
    · intro t ht ih bc bs
      simp only [nI_succ] at ih
      refine b_P_ackedBy_7 hX _ _ _ _ _ (i_iload rfl <| i_aload rfl <| i_getf (c_cell hA h5 ho) rfl <| i_alen (c_cell hA h10 hg) <| i_cmp_f (nI_ge ht (by omega)) ?_)
      have h47 : ∀ x, x = akb a N e (rC R) (t + 1) → ∀ bc bs, FR l D cid m_P_ackedBy X 47 [some (.ref (A (5 + 5 * i))), some (.int e), some (.int x), some (.int (nI t))] [] (hC (5 + 5 * N) A f cs) bc bs := by
        intro x hx bc bs
        subst hx
        refine b_P_ackedBy_47 hX _ _ _ _ _ (i_iinc rfl <| i_end ?_)
        exact ih _ _
      refine b_P_ackedBy_16 hX _ _ _ _ _ (i_aload rfl <| i_getf (c_cell hA h5 ho) rfl <| i_iload rfl <| i_ald (c_cell hA h10 hg) ⟨rfl, ht, by omega⟩ <| i_iload rfl <| i_cmp ?_ ?_)
      · intro h
        refine h47 _ ?_ _ _
        rw [akb, if_neg]
        rw [← hga t ht]
        exact fun q => Int32.not_lt.mpr h q.1
      · intro h
        refine b_P_ackedBy_26 hX _ _ _ _ _ (i_aload rfl <| i_aload rfl <| i_getf (c_cell hA h5 ho) rfl <| i_iload rfl <| i_ald (c_cell hA h10 hg) ⟨rfl, ht, by omega⟩ <| j_rdV (c_cell hA h5 ho) (sp_countAcked hA hi hN ho hg hga) rfl rfl <| i_iload rfl <| i_cmp ?_ ?_)
        · intro h'
          refine h47 _ ?_ _ _
          rw [akb, if_neg]
          rw [← hga t ht]
          exact fun q => Int32.not_le.mpr h' q.2
        · intro h'
          refine b_P_ackedBy_40 hX _ _ _ _ _ (i_aload rfl <| i_getf (c_cell hA h5 ho) rfl <| i_iload rfl <| i_ald (c_cell hA h10 hg) ⟨rfl, ht, by omega⟩ <| i_istore <| i_end ?_)
          refine h47 _ ?_ _ _
          rw [akb, if_pos, hga t ht]
          rw [← hga t ht]
          exact ⟨Int32.not_le.mp h, Int32.not_lt.mp h'⟩
  refine b_P_ackedBy_0 hX _ _ _ _ _ (i_aload rfl <| i_getf (c_cell hA h5 ho) rfl <| i_istore <| i_push <| i_istore <| i_end ?_)
  exact loop 0 (Nat.zero_le _) _ _
theorem sp_forgetEverything (hE : En Z A N f) (hi : i < N) (hN : N ≤ 5) (hR : RepC Z f A N cs i R) :
    CS l D cid m_P_forgetEverything [.ref (A (5 + 5 * i))] (hC (5 + 5 * N) A f cs) (fun v f' => v = none ∧ ∃ f1 cs' la va, f' = hC (5 + 5 * N) A f1 cs' ∧ Ext f f1 ∧ (∀ k, ¬ W5 i k → cs' k = cs k) ∧ cs' (5 + 5 * i) = .inl (2, robj A i la va (r_fresh R)) ∧ RepC Z f1 A N cs' i (r_fresh R) ∧ (∃ g, f1 va = some (.inr (.inl (0, N, g))) ∧ ∀ t, t < N → g t = 0) ∧ f va = none ∧ ¬ la = va) := by
  intro X hX
  have hA := hE.1
  have h5 : 5 + 5 * i < 5 + 5 * N := by omega
  obtain ⟨la, va, h1, h2, ⟨vz, gv, hgv, hgv'⟩, ⟨ga, h4, h4'⟩, ⟨g1, k1, k1'⟩, ⟨g2, k2, k2'⟩, ⟨g3, k3, k3'⟩, h8, h9⟩ := hR
  refine b_P_forgetEverything_0 hX _ _ _ _ _ (i_aload rfl <| i_push <| c_putI hA h5 h1 rfl <| i_aload rfl <| i_push <| c_putI hA h5 (va_s _ _ _) rfl <| i_aload rfl <| i_new ⟨by decide, by decide⟩ fun q1 hq1 => i_dup <| ?_)
  refine j_upI (sp_L_init (hup_s _ _ _)) rfl rfl ?_
  obtain ⟨q1z, q1n⟩ := hE.no hq1
  rw [hup_hup, hC_new hq1]
  have X1 : Ext f (hup f q1 (.inl (0, [.null, .int 0, .int 0, .int 0, .int 0, .int 0]))) := Ext.new q1n
  refine (c_putR hA h5 (va_s _ _ _) rfl <| i_aload rfl <| i_push <| c_putI hA h5 (va_s _ _ _) rfl <| i_aload rfl <| i_aload rfl <| i_getf (c_cell hA h5 (va_s _ _ _)) rfl <| i_alen ((hE.ext X1).im _ _ vz (X1 _ _ hgv)) <| i_newI ⟨rfl, by omega⟩ ⟨by decide, Nat.le_trans hN (by decide)⟩ fun q2 hq2 => ?_)
  obtain ⟨q2z, q2n⟩ := (hE.ext X1).no hq2
  rw [hC_new hq2]
  have hq12 : q1 ≠ q2 := fun e => by rw [← e, hup_s] at q2n; cases q2n
  have q2f : f q2 = none := by
    cases e : f q2 with
    | none => rfl
    | some c => rw [X1 _ _ e] at q2n; cases q2n
  refine (c_putR hA h5 (va_s _ _ _) rfl <| i_aload rfl <| ?_)
  simp only [va_va]
  refine j_callV (c_cell hA h5 (va_s _ _ _)) (sp_forgetAcked (la := q1) (va := q2) (R := (rS R, 0, 0, [], 0, fun _ => 0, rA R, rP R, rO R, rE R, rR R, rN R)) (g := ga) hA hi hN (va_s _ _ _) ((va_n (by omega)).trans h4)) rfl rfl ?_
  rintro w f' ⟨rfl, ga', rfl, hga'⟩
  refine (i_aload rfl <| i_push <| c_putZ hA h5 ((va_n (by omega)).trans (va_s _ _ _)) rfl <| i_aload rfl <| ?_)
  refine j_callV (c_cell hA h5 (va_s _ _ _)) (sp_forgetKept (la := q1) (va := q2) (R := (rS R, 0, 0, [], 0, fun _ => 0, rA R, 0, rO R, rE R, rR R, rN R)) (g1 := g1) (g2 := g2) (g3 := g3) hA hi hN (va_s _ _ _) ((va_n (by omega)).trans ((va_n (by omega)).trans ((va_n (by omega)).trans k1))) ((va_n (by omega)).trans ((va_n (by omega)).trans ((va_n (by omega)).trans k2))) ((va_n (by omega)).trans ((va_n (by omega)).trans ((va_n (by omega)).trans k3)))) rfl rfl ?_
  rintro w f' ⟨rfl, cs', rfl, hs, n1, n2, n3⟩
  refine (i_ret ?_)
  have X2 := X1.trans (Ext.new (c := .inr (.inl (0, N, fun _ => 0))) q2n)
  have e5 : cs' (5 + 5 * i) = .inl (2, robj A i q1 q2 (r_fresh R)) := by
    rw [hs _ (by omega) (by omega) (by omega), va_s]
    rfl
  have hl : LogR Z (hup (hup f q1 (.inl (0, [.null, .int 0, .int 0, .int 0, .int 0, .int 0]))) q2 (.inr (.inl (0, N, fun _ => 0)))) [] q1 := ⟨q1z, (hup_n hq12).trans (hup_s _ _ _)⟩
  refine ⟨rfl, _, cs', q1, q2, rfl, X2, fun k hk => ?_, e5, ⟨q1, q2, e5, hl, ⟨q2z, _, hup_s _ _ _, fun _ _ => rfl⟩, ⟨ga', ?_, hga'⟩, n1.kep, n2.kep, n3.kep, b24_0, fun _ _ => b24_0⟩, ⟨_, hup_s _ _ _, fun _ _ => rfl⟩, q2f, hq12⟩
  · simp only [W5] at hk
    rw [hs k (by omega) (by omega) (by omega), va_n (by omega), va_n (by omega), va_n (by omega)]
  · rw [hs _ (by omega) (by omega) (by omega), va_n (by omega), va_s]
theorem sp_becomePrimary (hE : En Z A N f) (hi : i < N) (hN : N ≤ 5) (hR : RepC Z f A N cs i R) :
    CS l D cid m_P_becomePrimary [.ref (A (5 + 5 * i))] (hC (5 + 5 * N) A f cs) (fun w f' => w = none ∧ ∃ cs', f' = hC (5 + 5 * N) A f cs' ∧ (∀ k, ¬ W5 i k → cs' k = cs k) ∧ RepC Z f A N cs' i (r_primary R N)) := by
  intro X hX
  have hA := hE.1
  have h5 : 5 + 5 * i < 5 + 5 * N := by omega
  have h20 : 8 + 5 * i < 5 + 5 * N := by omega
  obtain ⟨la, va, h1, h2, h3, h4, k1, k2, k3, h8, h9⟩ := id hR
  obtain ⟨g, hg, hg'⟩ := id k2
  obtain ⟨ga, ha1, ha2⟩ := id h4
  have loop : ∀ t, t ≤ N → ∀ (lb : Nat) (x5 x6 : Option Value), LogR Z f (bst (rE R) (rG R, rL R, rC R) t).1 lb → b24 (bst (rE R) (rG R, rL R, rC R) t).2.2 → FR l D cid m_P_becomePrimary X 18 [some (.ref (A (5 + 5 * i))), some (.ref lb), some (.int (bst (rE R) (rG R, rL R, rC R) t).2.1), some (.int (bst (rE R) (rG R, rL R, rC R) t).2.2), some (.int (nI t)), x5, x6] [] (hC (5 + 5 * N) A f cs) m_P_becomePrimary.2.2.2.2.cells m_P_becomePrimary.2.2.2.2.slots := by
    refine up_to ?_ ?_
    · intro lb x5 x6 hl hb
      refine b_P_becomePrimary_18 hX _ _ _ _ _ (i_iload rfl <| i_aload rfl <| i_getf (c_cell hA h5 h1) rfl <| i_alenq (c_cell hA h20 hg) <| i_cmp_t (Int32.le_refl _) ?_)
      refine b_P_becomePrimary_118 hX _ _ _ _ _ (i_aload rfl <| ?_)
      refine j_callV (c_cell hA h5 h1) (sp_forgetAcked hA hi hN h1 ha1) rfl rfl ?_
      rintro w f' ⟨rfl, ga', rfl, hga'⟩
      refine (i_aload rfl <| i_aload rfl <| i_getf (c_cell hA h5 ((va_n (by omega)).trans h1)) rfl <| i_aload rfl <| i_iload rfl <| ?_)
      have hR' : RepC Z f A N (va_up cs (6 + 5 * i) (.inr (.inl (0, N, ga')))) i (rS R, rV R, rL R, rG R, rC R, rX R, fun _ => 0, rP R, rO R, rE R, rR R, rN R) :=
        ⟨la, va, (va_n (by omega)).trans h1, h2, h3, ⟨ga', va_s _ _ _, hga'⟩, k1.fm (ext_r f) (va_n (by omega)), k2.fm (ext_r f) (va_n (by omega)), k3.fm (ext_r f) (va_n (by omega)), h8, fun _ _ => b24_0⟩
      refine j_callV (c_cell hA h5 ((va_n (by omega)).trans h1)) (sp_becomeNormal (la' := lb) (v := rV R) hA hi hN hR' hl hb) rfl rfl ?_
      rintro w f' ⟨rfl, cs', rfl, hs, hr⟩
      refine (i_ret ?_)
      refine ⟨rfl, cs', rfl, fun k hk => (hs k hk).trans (va_n ?_), hr⟩
      simp only [W5] at hk
      omega
    · intro t ht ih lb x5 x6 hl hb
      simp only [nI_succ] at ih
      have h112 : ∀ (b : List Ent × Int32 × Int32) (lc : Nat) (y5 y6 : Option Value), b = bst (rE R) (rG R, rL R, rC R) (t + 1) → LogR Z f b.1 lc → b24 b.2.2 → FR l D cid m_P_becomePrimary X 112 [some (.ref (A (5 + 5 * i))), some (.ref lc), some (.int b.2.1), some (.int b.2.2), some (.int (nI t)), y5, y6] [] (hC (5 + 5 * N) A f cs) m_P_becomePrimary.2.2.2.2.cells m_P_becomePrimary.2.2.2.2.slots := by
        intro b lc y5 y6 hb' hl' hc'
        subst hb'
        refine b_P_becomePrimary_112 hX _ _ _ _ _ (i_iinc rfl <| i_end ?_)
        exact ih lc y5 y6 hl' hc'
      have hot := hg' t ht
      refine b_P_becomePrimary_18 hX _ _ _ _ _ (i_iload rfl <| i_aload rfl <| i_getf (c_cell hA h5 h1) rfl <| i_alenq (c_cell hA h20 hg) <| i_cmp_f (nI_ge ht (by omega)) ?_)
      cases hq : g t with
      | none =>
        rw [hq] at hot
        cases hk : rE R t with
        | some m => rw [hk] at hot; exact hot.elim
        | none =>
          refine b_P_becomePrimary_28 hX _ _ _ _ _ (i_aload rfl <| i_getf (c_cell hA h5 h1) rfl <| i_iload rfl <| i_aldq' (c_cell hA h20 hg) (⟨⟨rfl, ht, by omega⟩, congrArg va_rf hq⟩) <| i_astore <| i_aload rfl <| i_null_n ?_)
          refine b_P_becomePrimary_42 hX _ _ _ _ _ (i_end ?_)
          have e := bst_n (b0 := (rG R, rL R, rC R)) hk
          exact h112 _ lb _ _ e.symm hl hb
      | some q =>
        rw [hq] at hot
        cases hk : rE R t with
        | none => rw [hk] at hot; exact hot.elim
        | some m =>
          rw [hk] at hot
          obtain ⟨mz, mva, mla, hm1, hm2, hm3, hm4, hm5, hm6⟩ := id hot
          have hmc := hE.im (cs := cs) _ _ mz hm1
          obtain ⟨bb, hbb⟩ := hl.cell
          have hbc := hE.im (cs := cs) _ _ hl.nz hbb
          obtain ⟨bm, hbm⟩ := hm3.cell
          have hmb := hE.im (cs := cs) _ _ hm3.nz hbm
          have h102 : ∀ (lg : List Ent) (v : Int32) (lc : Nat) (y6 : Option Value), LogR Z f lg lc → (lg, v, mx (bst (rE R) (rG R, rL R, rC R) t).2.2 (mC m)) = bst (rE R) (rG R, rL R, rC R) (t + 1) → FR l D cid m_P_becomePrimary X 102 [some (.ref (A (5 + 5 * i))), some (.ref lc), some (.int v), some (.int (bst (rE R) (rG R, rL R, rC R) t).2.2), some (.int (nI t)), some (.ref q), y6] [] (hC (5 + 5 * N) A f cs) m_P_becomePrimary.2.2.2.2.cells m_P_becomePrimary.2.2.2.2.slots := by
            intro lg v lc y6 hl' he
            refine b_P_becomePrimary_102 hX _ _ _ _ _ (i_iload rfl <| i_aload rfl <| i_getf hmc rfl <| j_rdS (sp_max) rfl rfl <| i_istore <| i_end ?_)
            exact h112 (lg, v, _) lc _ _ he hl' (b24_mx hb hm6)
          have h90 : ∀ y6 : Option Value, ((bst (rE R) (rG R, rL R, rC R) t).2.1 < mL m ∨ (mL m = (bst (rE R) (rG R, rL R, rC R) t).2.1 ∧ nI (bst (rE R) (rG R, rL R, rC R) t).1.length < nI (mG m).length)) → FR l D cid m_P_becomePrimary X 90 [some (.ref (A (5 + 5 * i))), some (.ref lb), some (.int (bst (rE R) (rG R, rL R, rC R) t).2.1), some (.int (bst (rE R) (rG R, rL R, rC R) t).2.2), some (.int (nI t)), some (.ref q), y6] [] (hC (5 + 5 * N) A f cs) m_P_becomePrimary.2.2.2.2.cells m_P_becomePrimary.2.2.2.2.slots := by
            intro y6 hc
            refine b_P_becomePrimary_90 hX _ _ _ _ _ (i_aload rfl <| i_getf hmc rfl <| i_astore <| i_aload rfl <| i_getf hmc rfl <| i_istore <| i_end ?_)
            exact h102 (mG m) (mL m) mla _ hm3 (bst_p hk hc).symm
          have h73 : ¬ (mL m = (bst (rE R) (rG R, rL R, rC R) t).2.1 ∧ nI (bst (rE R) (rG R, rL R, rC R) t).1.length < nI (mG m).length) → ∀ y6 : Option Value, FR l D cid m_P_becomePrimary X 73 [some (.ref (A (5 + 5 * i))), some (.ref lb), some (.int (bst (rE R) (rG R, rL R, rC R) t).2.1), some (.int (bst (rE R) (rG R, rL R, rC R) t).2.2), some (.int (nI t)), some (.ref q), y6] [] (hC (5 + 5 * N) A f cs) m_P_becomePrimary.2.2.2.2.cells m_P_becomePrimary.2.2.2.2.slots := by
            intro hn y6
            refine b_P_becomePrimary_73 hX _ _ _ _ _ (i_push <| i_end ?_)
            refine b_P_becomePrimary_74 hX _ _ _ _ _ (i_istore <| i_aload rfl <| i_getf hmc rfl <| i_iload rfl <| i_cmp ?_ ?_)
            · intro h
              exact h90 _ (Or.inl h)
            · intro h
              refine b_P_becomePrimary_85 hX _ _ _ _ _ (i_iload rfl <| i_if_t rfl ?_)
              exact h102 _ _ lb _ hl (bst_m hk (fun q => q.elim h hn)).symm
          refine b_P_becomePrimary_28 hX _ _ _ _ _ (i_aload rfl <| i_getf (c_cell hA h5 h1) rfl <| i_iload rfl <| i_aldq' (c_cell hA h20 hg) (⟨⟨rfl, ht, by omega⟩, congrArg va_rf hq⟩) <| i_astore <| i_aload rfl <| i_null_r ?_)
          refine b_P_becomePrimary_45 hX _ _ _ _ _ (i_aload rfl <| i_getf hmc rfl <| i_iload rfl <| i_cmp ?_ ?_)
          · intro hne
            exact h73 (fun q => hne q.1) _
          · intro heq
            have heq' := Classical.not_not.mp heq
            refine b_P_becomePrimary_54 hX _ _ _ _ _ (i_aload rfl <| i_getf hmc rfl <| i_getf hmb rfl <| i_aload rfl <| i_getf hbc rfl <| i_cmp ?_ ?_)
            · intro hle
              exact h73 (fun q => Int32.not_lt.mpr hle q.2) _
            · intro hgt
              refine b_P_becomePrimary_69 hX _ _ _ _ _ (i_push <| i_end ?_)
              refine b_P_becomePrimary_74 hX _ _ _ _ _ (i_istore <| i_aload rfl <| i_getf hmc rfl <| i_iload rfl <| i_cmp ?_ ?_)
              · intro h
                exact h90 _ (Or.inl h)
              · intro h
                refine b_P_becomePrimary_85 hX _ _ _ _ _ (i_iload rfl <| i_if_f (by decide) ?_)
                exact h90 _ (Or.inr ⟨heq', Int32.not_le.mp hgt⟩)
  refine b_P_becomePrimary_0 hX _ _ _ _ _ (i_aload rfl <| i_getf (c_cell hA h5 h1) rfl <| i_astore <| i_aload rfl <| i_getf (c_cell hA h5 h1) rfl <| i_istore <| i_aload rfl <| i_getf (c_cell hA h5 h1) rfl <| i_istore <| i_push <| i_istore <| i_end ?_)
  exact loop 0 (Nat.zero_le _) la none none h2 h8
end SPQ
