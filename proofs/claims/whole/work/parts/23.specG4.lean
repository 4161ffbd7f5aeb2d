section SPJ
variable {l : Launch} {D : va_G} {cid : Nat → ClassId} {Z : Nat → Prop} {f : HF} {A : Nat → Nat} {N i : Nat} {cs : Nat → PC} {S : GS}
theorem sp_joinChange {ma : Nat} {m : Msg} (hE : En Z A N f) (hN : N = 3 ∨ N = 5) (hi : i < N) (hm : MsgR Z f N ma m) (hG : GRc Z f A N cs S) (hT : gT S < 2 ^ 29) :
    CS l D cid m_G_joinChange [.ref (A 0), .ref (A (5 + 5 * i)), .ref ma] (hC (5 + 5 * N) A f cs) (PH Z f A N (some (.int (bI (decide (mV m = rV (gR (g_join N S i m) i) ∧ rS (gR (g_join N S i m) i) = 1))))) (g_join N S i m)) := by
  intro X hX
  have hA := hE.1
  have h5' : 5 + 5 * i < 5 + 5 * N := by omega
  obtain ⟨la, va, r1, r2⟩ := hG.2.2.2.2.2 i hi
  obtain ⟨mz, mva, mla, m1, m2, m3, m4, m5, m6⟩ := id hm
  have hmc := hE.im (cs := cs) _ _ mz m1
  have h20 : ∀ (f1 : HF) (c1 : Nat → PC) (bc bs : Nat), Ext f f1 → GRc Z f1 A N c1 (g_join N S i m) → FR l D cid m_G_joinChange X 20 [some (.ref (A 0)), some (.ref (A (5 + 5 * i))), some (.ref ma)] [] (hC (5 + 5 * N) A f1 c1) bc bs := by
    intro f1 c1 bc bs hx hg
    obtain ⟨la1, va1, p1, p2⟩ := hg.2.2.2.2.2 i hi
    have hmc1 := (hE.ext hx).im (cs := c1) _ _ mz (hx _ _ m1)
    have fin : ∀ (b : Bool) (bc bs : Nat), b = decide (mV m = rV (gR (g_join N S i m) i) ∧ rS (gR (g_join N S i m) i) = 1) → FR l D cid m_G_joinChange X 44 [some (.ref (A 0)), some (.ref (A (5 + 5 * i))), some (.ref ma)] [.int (bI b)] (hC (5 + 5 * N) A f1 c1) bc bs := by
      intro b bc bs hb
      refine b_G_joinChange_44 hX _ _ _ _ _ (i_zret ?_)
      exact ⟨by rw [hb], f1, c1, rfl, hx, hg⟩
    refine b_G_joinChange_20 hX _ _ _ _ _ (i_aload rfl <| i_getf hmc1 rfl <| i_aload rfl <| i_getf (c_cell hA h5' p1) rfl <| i_cmp ?_ ?_)
    · intro h
      refine b_G_joinChange_43 hX _ _ _ _ _ (i_push <| i_end ?_)
      exact fin false _ _ (decide_eq_false (fun q => h q.1)).symm
    · intro h
      refine b_G_joinChange_31 hX _ _ _ _ _ (i_aload rfl <| i_getf (c_cell hA h5' p1) rfl <| i_push <| i_cmp ?_ ?_)
      · intro h'
        refine b_G_joinChange_43 hX _ _ _ _ _ (i_push <| i_end ?_)
        exact fin false _ _ (decide_eq_false (fun q => h' q.2)).symm
      · intro h'
        refine b_G_joinChange_39 hX _ _ _ _ _ (i_push <| i_end ?_)
        exact fin true _ _ (decide_eq_true ⟨Classical.not_not.mp h, Classical.not_not.mp h'⟩).symm
  refine b_G_joinChange_0 hX _ _ _ _ _ (i_aload rfl <| i_getf hmc rfl <| i_aload rfl <| i_getf (c_cell hA h5' r1) rfl <| i_cmp ?_ ?_)
  · intro h
    refine h20 f cs _ _ (ext_r f) ?_
    rw [g_join, if_neg (Int32.not_lt.mpr h)]
    exact hG
  · intro h
    refine b_G_joinChange_11 hX _ _ _ _ _ (i_aload rfl <| i_aload rfl <| i_aload rfl <| i_getf hmc rfl <| ?_)
    refine j_callV (c_cell hA (by omega) hG.1) (sp_startChanging (i := i) (v := mV m) hE hN hi hG hT) rfl rfl ?_
    rintro v' F' ⟨rfl, f2, c2, rfl, hx2, hg2⟩
    refine (i_end ?_)
    refine h20 f2 c2 _ _ hx2 ?_
    rw [g_join, if_pos (Int32.not_le.mp h)]
    exact hg2
theorem kep_put {k ma : Nat} {m : Msg} {km : KM} {g : Nat → Option Nat} (hg : cs k = .inr (.inr (2, N, g))) (hk : ∀ t, t < N → OptR Z f N (g t) (km t)) (hm : MsgR Z f N ma m) : KepC Z f (va_up cs k (.inr (.inr (2, N, va_up g (mS m) (some ma))))) N k (va_up km (mS m) (some m)) := by
  refine ⟨_, va_s _ _ _, fun t ht => ?_⟩
  by_cases e : t = mS m
  · rw [e, va_s, va_s]
    exact hm
  · rw [va_n e, va_n e]
    exact hk t ht
theorem sp_keepVote {ma : Nat} {m : Msg} (hE : En Z A N f) (hN : N = 3 ∨ N = 5) (hi : i < N) (hm : MsgR Z f N ma m) (hG : GRc Z f A N cs S) (hT : gT S < 2 ^ 29) (hv : ∃ v : Nat, v < 2 ^ 31 ∧ rV (gR S i) = nI v) :
    CS l D cid m_G_keepVote [.ref (A 0), .ref (A (5 + 5 * i)), .ref ma] (hC (5 + 5 * N) A f cs) (PH Z f A N none (g_vote N S i m)) := by
  intro X hX
  have hA := hE.1
  have h5' : 5 + 5 * i < 5 + 5 * N := by omega
  have h15 : 7 + 5 * i < 5 + 5 * N := by omega
  obtain ⟨la, va, r1, r2, r3, r4, r5, r6, r7, r8, r9⟩ := id (hG.2.2.2.2.2 i hi)
  obtain ⟨g1, k1, k1'⟩ := id r5
  obtain ⟨mz, mva, mla, m1, m2, m3, m4, m5, m6⟩ := id hm
  have hmc := hE.im (cs := cs) _ _ mz m1
  obtain ⟨vv, hvv, hve⟩ := hv
  have hprim : fmod (rV (gR S i)) (nI N) = nI (vv % N) := by rw [hve, fm_N hvv hN]
  have hpn : vv % N < N := Nat.mod_lt _ (by omega)
  have hpd : prim N (rV (gR S i)) = vv % N := by rw [prim, hprim]; exact nI_clamp (by omega)
  have hR1 : RepC Z f A N (va_up cs (7 + 5 * i) (.inr (.inr (2, N, va_up g1 (mS m) (some ma))))) i (r_vote (gR S i) m) :=
    ⟨la, va, (va_n (by omega)).trans r1, r2, r3, r4.fm (va_n (by omega)), kep_put k1 k1' hm, r6.fm (ext_r f) (va_n (by omega)), r7.fm (ext_r f) (va_n (by omega)), r8, r9⟩
  have hG1 := hG.rep (by omega) hi (ext_r f) (fun k hk => va_n (fun e => hk (Or.inr (Or.inr (Or.inl e))))) hR1
  have hr1 : (va_up cs (7 + 5 * i) (.inr (.inr (2, N, va_up g1 (mS m) (some ma))))) (5 + 5 * i) = .inl (2, robj A i la va (gR S i)) := (va_n (by omega)).trans r1
  obtain ⟨gk, kk, kk'⟩ := kep_put k1 k1' hm
  have fin : ¬ (¬ nI i = fmod (rV (gR S i)) (nI N) ∧ rP (gR S i) = 0 ∧ nI (N / 2) ≤ cnt (rO (r_vote (gR S i) m)) N) → ∀ x3 bc bs, FR l D cid m_G_keepVote X 61 [some (.ref (A 0)), some (.ref (A (5 + 5 * i))), some (.ref ma), x3] [] (hC (5 + 5 * N) A f (va_up cs (7 + 5 * i) (.inr (.inr (2, N, va_up g1 (mS m) (some ma)))))) bc bs := by
    intro hc x3 bc bs
    refine b_G_keepVote_61 hX _ _ _ _ _ (i_ret ?_)
    refine ⟨rfl, f, _, rfl, ext_r f, ?_⟩
    rw [g_vote, if_neg hc]
    exact hG1
  refine b_G_keepVote_0 hX _ _ _ _ _ (i_aload rfl <| i_getf (c_cell hA h5' r1) rfl <| i_aload rfl <| i_getf hmc rfl <| i_aload rfl <| c_astq_r hmc hA h15 k1 ⟨rfl, m4, by omega⟩ <| i_aload rfl <| i_aload rfl <| i_getf (c_cell hA h5' hr1) rfl <| j_rdV (c_cell hA (by omega) hG1.1) (sp_primaryOf hA hN hG1.1) rfl rfl <| i_istore <| i_aload rfl <| i_getf (c_cell hA h5' hr1) rfl <| i_iload rfl <| i_cmp ?_ ?_)
  · intro h
    exact fin (fun q => q.1 h) _ _ _
  · intro h
    refine b_G_keepVote_27 hX _ _ _ _ _ (i_aload rfl <| i_getf (c_cell hA h5' hr1) rfl <| i_if ?_ ?_)
    · intro h'
      exact fin (fun q => h' q.2.1) _ _ _
    · intro h'
      refine b_G_keepVote_34 hX _ _ _ _ _ (i_aload rfl <| i_getf (c_cell hA h5' hr1) rfl <| j_rdS (sp_count (Z := Z) (km := rO (r_vote (gR S i) m)) (by omega) (c_cell hA h15 kk) (fun t ht => (kk' t ht).fm hE.im)) rfl rfl <| i_aload rfl <| i_getf (c_cell hA (by omega) hG1.1) rfl <| i_cmp ?_ ?_)
      · intro h''
        exact fin (fun q => Int32.not_le.mpr h'' q.2.2) _ _ _
      · intro h''
        refine b_G_keepVote_48 hX _ _ _ _ _ (i_aload rfl <| i_aload rfl <| i_push <| i_iload rfl <| ?_)
        rw [hprim]
        refine j_callV (c_cell hA (by omega) hG1.1) (sp_send (i := i) (d := vv % N) (kind := 6) hE hN hi hpn hG1 (Nat.lt_trans hT (by decide))) rfl rfl ?_
        rintro v' F' ⟨rfl, f2, c2, rfl, hx2, hg2⟩
        have hR2 := hg2.2.2.2.2.2 i hi
        rw [show gR (g_send (g_rep S i (r_vote (gR S i) m)) i 6 (vv % N)) i = r_vote (gR S i) m from va_s _ _ _] at hR2
        obtain ⟨la2, va2, p1, p2, p3, p4, p5, p6, p7, p8, p9⟩ := id hR2
        refine (i_aload rfl <| i_push <| c_putZ hA h5' p1 rfl <| i_end ?_)
        refine b_G_keepVote_61 hX _ _ _ _ _ (i_ret ?_)
        have hR3 := RepC.set (R' := r_sent (r_vote (gR S i) m)) (ext_r f2) hR2 (by omega) p2 p3 rfl rfl rfl rfl p8
        refine ⟨rfl, f2, _, rfl, hx2, ?_⟩
        rw [g_vote, if_pos ⟨h, Classical.not_not.mp h', Int32.not_lt.mp h''⟩, hpd]
        exact hg2.rep (by omega) hi (ext_r f2) (fun k hk => va_n (fun e => hk (Or.inl e))) hR3
theorem sp_keepPaper {ma : Nat} {m : Msg} (hE : En Z A N f) (hN : N = 3 ∨ N = 5) (hi : i < N) (hm : MsgR Z f N ma m) (hG : GRc Z f A N cs S) (hT : gT S < 2 ^ 29) :
    CS l D cid m_G_keepPaper [.ref (A 0), .ref (A (5 + 5 * i)), .ref ma] (hC (5 + 5 * N) A f cs) (PH Z f A N none (g_paper N S i m)) := by
  intro X hX
  have hA := hE.1
  have h5' : 5 + 5 * i < 5 + 5 * N := by omega
  have h20 : 8 + 5 * i < 5 + 5 * N := by omega
  obtain ⟨la, va, r1, r2, r3, r4, r5, r6, r7, r8, r9⟩ := id (hG.2.2.2.2.2 i hi)
  obtain ⟨g1, k1, k1'⟩ := id r6
  obtain ⟨mz, mva, mla, m1, m2, m3, m4, m5, m6⟩ := id hm
  have hmc := hE.im (cs := cs) _ _ mz m1
  have hR1 : RepC Z f A N (va_up cs (8 + 5 * i) (.inr (.inr (2, N, va_up g1 (mS m) (some ma))))) i (r_pap (gR S i) m) :=
    ⟨la, va, (va_n (by omega)).trans r1, r2, r3, r4.fm (va_n (by omega)), r5.fm (ext_r f) (va_n (by omega)), kep_put k1 k1' hm, r7.fm (ext_r f) (va_n (by omega)), r8, r9⟩
  have hs1 : ∀ k, ¬ W5 i k → va_up cs (8 + 5 * i) (.inr (.inr (2, N, va_up g1 (mS m) (some ma)))) k = cs k := fun k hk => va_n (fun e => hk (Or.inr (Or.inr (Or.inr (Or.inl e)))))
  have hG1 := hG.rep (by omega) hi (ext_r f) hs1 hR1
  have hr1 : (va_up cs (8 + 5 * i) (.inr (.inr (2, N, va_up g1 (mS m) (some ma))))) (5 + 5 * i) = .inl (2, robj A i la va (gR S i)) := (va_n (by omega)).trans r1
  obtain ⟨gk, kk, kk'⟩ := kep_put k1 k1' hm
  refine b_G_keepPaper_0 hX _ _ _ _ _ (i_aload rfl <| i_getf (c_cell hA h5' r1) rfl <| i_aload rfl <| i_getf hmc rfl <| i_aload rfl <| c_astq_r hmc hA h20 k1 ⟨rfl, m4, by omega⟩ <| i_aload rfl <| i_getf (c_cell hA h5' hr1) rfl <| j_rdS (sp_count (Z := Z) (km := rE (r_pap (gR S i) m)) (by omega) (c_cell hA h20 kk) (fun t ht => (kk' t ht).fm hE.im)) rfl rfl <| i_aload rfl <| i_getf (c_cell hA (by omega) hG1.1) rfl <| i_cmp ?_ ?_)
  · intro h
    refine b_G_keepPaper_34 hX _ _ _ _ _ (i_ret ?_)
    refine ⟨rfl, f, _, rfl, ext_r f, ?_⟩
    rw [g_paper, if_neg (Int32.not_le.mpr h)]
    exact hG1
  · intro h
    refine b_G_keepPaper_24 hX _ _ _ _ _ (i_aload rfl <| ?_)
    refine j_callV (c_cell hA h5' hr1) (sp_becomePrimary hE (by omega) (by omega) hR1) rfl rfl ?_
    rintro w F' ⟨rfl, c2, rfl, s2, hR2⟩
    have hG2 := hG.rep (by omega) hi (ext_r f) (fun k hk => (s2 k hk).trans (hs1 k hk)) hR2
    refine (i_aload rfl <| i_aload rfl <| i_push <| ?_)
    refine j_callV (c_cell hA (by omega) hG2.1) (sp_sendToAll (i := i) (kind := 4) hE hN hi hG2 hT) rfl rfl ?_
    rintro v' F' ⟨rfl, f3, c3, rfl, hx3, hg3⟩
    refine (i_end ?_)
    refine b_G_keepPaper_34 hX _ _ _ _ _ (i_ret ?_)
    refine ⟨rfl, f3, c3, rfl, hx3, ?_⟩
    rw [g_paper, if_pos (Int32.not_lt.mp h)]
    exact hg3
theorem sp_keepResponse {ma : Nat} {m : Msg} (hE : En Z A N f) (hN : N = 3 ∨ N = 5) (hi : i < N) (hm : MsgR Z f N ma m) (hG : GRc Z f A N cs S) (hv : ∃ v : Nat, v < 2 ^ 31 ∧ gvw (rR (r_resp (gR S i) m)) N = nI v) :
    CS l D cid m_G_keepResponse [.ref (A 0), .ref (A (5 + 5 * i)), .ref ma] (hC (5 + 5 * N) A f cs) (PH Z f A N none (g_rep S i (r_reco N (r_resp (gR S i) m)))) := by
  intro X hX
  have hA := hE.1
  have h5' : 5 + 5 * i < 5 + 5 * N := by omega
  have h25 : 9 + 5 * i < 5 + 5 * N := by omega
  obtain ⟨la, va, r1, r2, r3, r4, r5, r6, r7, r8, r9⟩ := id (hG.2.2.2.2.2 i hi)
  obtain ⟨g1, k1, k1'⟩ := id r7
  obtain ⟨mz, mva, mla, m1, m2, m3, m4, m5, m6⟩ := id hm
  have hmc := hE.im (cs := cs) _ _ mz m1
  obtain ⟨vv, hvv, hve⟩ := hv
  have hprim : fmod (gvw (rR (r_resp (gR S i) m)) N) (nI N) = nI (vv % N) := by rw [hve, fm_N hvv hN]
  have hpn : vv % N < N := Nat.mod_lt _ (by omega)
  have hpd : prim N (gvw (rR (r_resp (gR S i) m)) N) = vv % N := by rw [prim, hprim]; exact nI_clamp (by omega)
  have hR1 : RepC Z f A N (va_up cs (9 + 5 * i) (.inr (.inr (2, N, va_up g1 (mS m) (some ma))))) i (r_resp (gR S i) m) :=
    ⟨la, va, (va_n (by omega)).trans r1, r2, r3, r4.fm (va_n (by omega)), r5.fm (ext_r f) (va_n (by omega)), r6.fm (ext_r f) (va_n (by omega)), kep_put k1 k1' hm, r8, r9⟩
  have hs1 : ∀ k, ¬ W5 i k → va_up cs (9 + 5 * i) (.inr (.inr (2, N, va_up g1 (mS m) (some ma)))) k = cs k := fun k hk => va_n (fun e => hk (Or.inr (Or.inr (Or.inr (Or.inr e)))))
  have hG1 := hG.rep (by omega) hi (ext_r f) hs1 hR1
  have hr1 : (va_up cs (9 + 5 * i) (.inr (.inr (2, N, va_up g1 (mS m) (some ma))))) (5 + 5 * i) = .inl (2, robj A i la va (gR S i)) := (va_n (by omega)).trans r1
  have kk := va_s cs (9 + 5 * i) (.inr (.inr (2, N, va_up g1 (mS m) (some ma))) : PC)
  have kk' : ∀ t, t < N → OptR Z f N (va_up g1 (mS m) (some ma) t) (rR (r_resp (gR S i) m) t) := by
    obtain ⟨g9, e9, n9⟩ := kep_put k1 k1' hm
    rw [va_s] at e9
    cases e9
    exact n9
  have fin : r_reco N (r_resp (gR S i) m) = r_resp (gR S i) m → ∀ x3 x4 bc bs, FR l D cid m_G_keepResponse X 74 [some (.ref (A 0)), some (.ref (A (5 + 5 * i))), some (.ref ma), x3, x4] [] (hC (5 + 5 * N) A f (va_up cs (9 + 5 * i) (.inr (.inr (2, N, va_up g1 (mS m) (some ma)))))) bc bs := by
    intro hc x3 x4 bc bs
    refine b_G_keepResponse_74 hX _ _ _ _ _ (i_ret ?_)
    refine ⟨rfl, f, _, rfl, ext_r f, ?_⟩
    rw [hc]
    exact hG1
  refine b_G_keepResponse_0 hX _ _ _ _ _ (i_aload rfl <| i_getf (c_cell hA h5' r1) rfl <| i_aload rfl <| i_getf hmc rfl <| i_aload rfl <| c_astq_r hmc hA h25 k1 ⟨rfl, m4, by omega⟩ <| i_aload rfl <| i_getf (c_cell hA h5' hr1) rfl <| j_rdS (sp_count (Z := Z) (km := rR (r_resp (gR S i) m)) (by omega) (c_cell hA h25 kk) (fun t ht => (kk' t ht).fm hE.im)) rfl rfl <| i_aload rfl <| i_getf (c_cell hA (by omega) hG1.1) rfl <| i_cmp ?_ ?_)
  · intro h
    have hn : ¬ cnt (rR (r_resp (gR S i) m)) N ≤ nI (N / 2) := Int32.not_le.mpr h
    have hkv := kk' (vv % N) hpn
    cases hq : va_up g1 (mS m) (some ma) (vv % N) with
    | none =>
      rw [hq] at hkv
      cases hk : rR (r_resp (gR S i) m) (vv % N) with
      | some L => rw [hk] at hkv; exact hkv.elim
      | none =>
        refine b_G_keepResponse_25 hX _ _ _ _ _ (i_aload rfl <| i_getf (c_cell hA h5' hr1) rfl <| j_rdS (sp_greatestView (Z := Z) (km := rR (r_resp (gR S i) m)) (by omega) (c_cell hA h25 kk) (fun t ht => (kk' t ht).fm hE.im)) rfl rfl <| i_istore <| i_aload rfl <| i_getf (c_cell hA h5' hr1) rfl <| i_aload rfl <| i_iload rfl <| j_rdV (c_cell hA (by omega) hG1.1) (sp_primaryOf hA hN hG1.1) rfl rfl <| i_aldq' (c_cell hA h25 kk) (⟨⟨hprim, hpn, by omega⟩, congrArg va_rf hq⟩) <| i_astore <| i_aload rfl <| i_null_n ?_)
        refine fin ?_ _ _ _ _
        rw [r_reco, if_neg hn, hpd, hk]
    | some q =>
      rw [hq] at hkv
      cases hk : rR (r_resp (gR S i) m) (vv % N) with
      | none => rw [hk] at hkv; exact hkv.elim
      | some L =>
        rw [hk] at hkv
        obtain ⟨qz, qva, qla, q1, q2, q3, q4, q5, q6⟩ := id hkv
        have hqc : ∀ c1, hC (5 + 5 * N) A f c1 q = _ := fun c1 => hE.im (cs := c1) _ _ qz q1
        refine b_G_keepResponse_25 hX _ _ _ _ _ (i_aload rfl <| i_getf (c_cell hA h5' hr1) rfl <| j_rdS (sp_greatestView (Z := Z) (km := rR (r_resp (gR S i) m)) (by omega) (c_cell hA h25 kk) (fun t ht => (kk' t ht).fm hE.im)) rfl rfl <| i_istore <| i_aload rfl <| i_getf (c_cell hA h5' hr1) rfl <| i_aload rfl <| i_iload rfl <| j_rdV (c_cell hA (by omega) hG1.1) (sp_primaryOf hA hN hG1.1) rfl rfl <| i_aldq' (c_cell hA h25 kk) (⟨⟨hprim, hpn, by omega⟩, congrArg va_rf hq⟩) <| i_astore <| i_aload rfl <| i_null_r ?_)
        refine b_G_keepResponse_50 hX _ _ _ _ _ (i_aload rfl <| i_getf (hqc _) rfl <| i_iload rfl <| i_cmp ?_ ?_)
        · intro hne
          refine fin ?_ _ _ _ _
          rw [r_reco, if_neg hn, hpd, hk]
          exact if_neg hne
        · intro heq
          refine b_G_keepResponse_59 hX _ _ _ _ _ (i_aload rfl <| i_iload rfl <| i_aload rfl <| i_getf (hqc _) rfl <| i_aload rfl <| i_getf (hqc _) rfl <| ?_)
          refine j_callV (c_cell hA h5' hr1) (sp_becomeNormal (la' := qla) (v := gvw (rR (r_resp (gR S i) m)) N) hA (by omega) (by omega) hR1 q3 q6) rfl rfl ?_
          rintro w F' ⟨rfl, c2, rfl, s2, hR2⟩
          refine (i_end ?_)
          refine b_G_keepResponse_74 hX _ _ _ _ _ (i_ret ?_)
          refine ⟨rfl, f, c2, rfl, ext_r f, ?_⟩
          have e : r_reco N (r_resp (gR S i) m) = r_normal (r_resp (gR S i) m) (gvw (rR (r_resp (gR S i) m)) N) (mG L) (mC L) := by
            rw [r_reco, if_neg hn, hpd, hk]
            exact if_pos (Classical.not_not.mp heq)
          rw [e]
          exact hG.rep (by omega) hi (ext_r f) (fun k hk => (s2 k hk).trans (hs1 k hk)) hR2
  · intro h
    refine b_G_keepResponse_24 hX _ _ _ _ _ (i_ret ?_)
    refine ⟨rfl, f, _, rfl, ext_r f, ?_⟩
    rw [r_reco, if_pos (Int32.not_lt.mp h)]
    exact hG1
end SPJ
