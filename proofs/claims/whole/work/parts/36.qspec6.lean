section QSE
variable {l : Launch} {D : va_G} {cid : Nat → ClassId} {f : HF} {B : Nat → Nat} {N n i : Nat} {s s' : QS} {S : GS} {o : Option Msg} {M : Msg}
theorem rel_norm {b : Nat} {v c : Int32} {lg : List Ent} (hN : N ≤ 5) (hi : i < N) (h : Rel N s S o) (hrow : RowQ s b lg) : Rel N (fg (qw (cp (qw (qw (qw s 6 i 0) 7 i v) 8 i v) b i lg.length) 9 i c) i 5) (g_rep S i (r_normal (gR S i) v lg c)) o := by
  obtain ⟨a1, a2, a3, a4, a5, a6, a7, a8, a9, a10, a11⟩ := h.2.2.2.1 i hi
  have hL24 := hrow.2.1
  have rd : ∀ j y, (fg (qw (cp (qw (qw (qw s 6 i 0) 7 i v) 8 i v) b i lg.length) 9 i c) i 5).1 j y = if (j = 14 ∨ j = 16) ∧ 5 * i ≤ y ∧ y < 5 * i + 5 then 0 else if j = 9 ∧ y = i then c else if j = 2 ∧ y = i then s.1 2 b else if (3 ≤ j ∧ j ≤ 5) ∧ 24 * i ≤ y ∧ y < 24 * i + lg.length then s.1 j (24 * b + (y - 24 * i)) else if j = 8 ∧ y = i then v else if j = 7 ∧ y = i then v else if j = 6 ∧ y = i then 0 else s.1 j y := fun j y => by
    rw [fg_a, qw_a, cp_a]
    by_cases q1 : (j = 14 ∨ j = 16) ∧ 5 * i ≤ y ∧ y < 5 * i + 5
    · rw [if_pos q1, if_pos q1]
    · rw [if_neg q1, if_neg q1]
      by_cases q2 : j = 9 ∧ y = i
      · rw [if_pos q2, if_pos q2]
      · rw [if_neg q2, if_neg q2]
        by_cases q3 : j = 2 ∧ y = i
        · rw [if_pos q3, if_pos q3, qw_a, if_neg (by omega), qw_a, if_neg (by omega), qw_a, if_neg (by omega)]
        · rw [if_neg q3, if_neg q3]
          by_cases q4 : (3 ≤ j ∧ j ≤ 5) ∧ 24 * i ≤ y ∧ y < 24 * i + lg.length
          · rw [if_pos q4, if_pos q4, qw_a, if_neg (by omega), qw_a, if_neg (by omega), qw_a, if_neg (by omega)]
          · rw [if_neg q4, if_neg q4, qw_a, qw_a, qw_a]
  refine rel_new hN hi h rfl (fun j y hy => ?_) ?_ ?_ ?_ ?_ ⟨?_, hL24, hrow.2.2.mv (fun j k h1 h2 h3 => ?_)⟩ (fun t ht => ?_) (fun t ht => ?_) ?_ ?_ (fun t ht => ?_) (fun t ht => ?_) rfl rfl
  · unfold inR at hy
    rw [rd, if_neg (by omega), if_neg (by omega), if_neg (by omega), if_neg (by omega), if_neg (by omega), if_neg (by omega), if_neg (by omega)]
  · rw [rd, if_neg (by omega), if_neg (by omega), if_neg (by omega), if_neg (by omega), if_neg (by omega), if_neg (by omega), if_pos (by omega)]
    rfl
  · rw [rd, if_neg (by omega), if_neg (by omega), if_neg (by omega), if_neg (by omega), if_neg (by omega), if_pos (by omega)]
    rfl
  · rw [rd, if_neg (by omega), if_neg (by omega), if_neg (by omega), if_neg (by omega), if_pos (by omega)]
    rfl
  · rw [rd, if_neg (by omega), if_pos (by omega)]
    rfl
  · rw [rd, if_neg (by omega), if_neg (by omega), if_pos (by omega)]
    exact hrow.1
  · have h3' : k < lg.length := h3
    rw [rd, if_neg (by omega), if_neg (by omega), if_neg (by omega), if_pos (by omega), show 24 * b + (24 * i + k - 24 * i) = 24 * b + k by omega]
  · rw [rd, if_neg (by omega), if_neg (by omega), if_neg (by omega), if_neg (by omega), if_neg (by omega), if_neg (by omega), if_neg (by omega)]
    exact a6 t ht
  · rw [rd, if_neg (by omega), if_neg (by omega), if_neg (by omega), if_neg (by omega), if_neg (by omega), if_neg (by omega), if_neg (by omega)]
    exact a7 t ht
  · rw [rd, if_neg (by omega), if_neg (by omega), if_neg (by omega), if_neg (by omega), if_neg (by omega), if_neg (by omega), if_neg (by omega)]
    exact a8
  · rw [rd, if_neg (by omega), if_neg (by omega), if_neg (by omega), if_neg (by omega), if_neg (by omega), if_neg (by omega), if_neg (by omega)]
    exact a9
  · rw [rd, if_pos (by omega)]
  · rw [rd, if_pos (by omega)]
theorem cnt_n (km : KM) : ∀ t, ∃ k : Nat, k ≤ t ∧ cnt km t = nI k
  | 0 => ⟨0, Nat.le_refl _, rfl⟩
  | t + 1 => by
    obtain ⟨k, h1, h2⟩ := cnt_n km t
    rw [cnt]
    split
    · exact ⟨k + 1, by omega, by rw [h2, nI_succ]⟩
    · exact ⟨k, by omega, h2⟩
theorem sp_Q_response (hB : QI B) (hN : N = 3 ∨ N = 5) (hi : i < N) (hR : Rel N s S (some M)) (hI : Inv N n S) (hM : InvM N n M) (hd : mD M = i) (hn : n < 2 ^ 30) (hs : rS (gR S i) = 2) : CS l D cid m_Q_response [.ref (B 0), .int (nI i), .int (nI (mS M))] (hQ f B N s) (PQ f B N none (g_rep S i (r_reco N (r_resp (gR S i) M))) (some M)) := by
  intro X hX
  have hms := hM.1
  have ke : kepE (r_resp (gR S i) M) = rR (r_resp (gR S i) M) := if_pos hs
  have h2 : Rel N (cp (kpt s (5 * i + mS M) (s.1 27 (320 + mS M))) 69 (70 + (5 * i + mS M)) (mG M).length) (g_rep S i (r_resp (gR S i) M)) (some M) :=
    rel_keep (R' := r_resp (gR S i) M) (by omega) hi hms hR rfl rfl rfl rfl rfl rfl rfl rfl rfl rfl (by
      rw [ke]
      show va_up (rR (gR S i)) (mS M) (some M) = va_up (kepE (gR S i)) (mS M) (some M)
      rw [show kepE (gR S i) = rR (gR S i) from if_pos hs])
  have hko : KO N n i (rR (r_resp (gR S i) M)) := KO_put (hI.1 i hi).2.2.2.2.2.2.2.2.2.2.1 hM hd
  obtain ⟨vv, hvn, hve⟩ := vw_gvw hko N (Nat.le_refl _)
  have hprim : fmod (gvw (rR (r_resp (gR S i) M)) N) (nI N) = nI (vv % N) := by rw [hve, fm_N (by omega) hN]
  have hpn : vv % N < N := Nat.mod_lt _ (by omega)
  have hpd : prim N (gvw (rR (r_resp (gR S i) M)) N) = vv % N := by rw [prim, hprim]; exact nI_clamp (by omega)
  have hcI : (5 : Int32) * nI i + (gvw (rR (r_resp (gR S i) M)) N - gvw (rR (r_resp (gR S i) M)) N / nI N * nI N) = nI (5 * i + vv % N) := by
    rw [hve, pk_rem (by omega) (by omega) (by omega)]
    simp only [nn_5, nI_mul, nI_add]
  refine b_Q_response_0 hX _ _ _ _ _ (i_aload rfl <| i_iload rfl <| i_iload rfl <| ?_)
  refine j_callV (q_this hB) (sp_Q_keep (R' := r_resp (gR S i) M) hB hN hi hms hR h2) rfl rfl ?_
  rintro w F' ⟨rfl, rfl⟩
  rw [ke]
  revert h2
  generalize hsK : cp (kpt s (5 * i + mS M) (s.1 27 (320 + mS M))) 69 (70 + (5 * i + mS M)) (mG M).length = sK
  intro h2
  obtain ⟨ck, hck, hce⟩ := cnt_n (rR (r_resp (gR S i) M)) N
  have hcmp : (nI (N / 2) + 1 ≤ cnt (rR (r_resp (gR S i) M)) N) ↔ ¬ cnt (rR (r_resp (gR S i) M)) N ≤ nI (N / 2) := by
    rw [hce, ← nI_succ, nI_leI (by omega) (by omega), nI_leI (by omega) (by omega)]
    omega
  refine (i_aload rfl <| q_getf hB rfl <| i_push <| i_bin <| i_cmp ?_ ?_)
  · intro hge
    have hge' := hcmp.mp hge
    have hb := h2.2.2.2.1 i hi
    rw [g_rep_R] at hb
    obtain ⟨d1, d2, d3, d4, d5, d6, d7, d8, d9, d10, d11⟩ := hb
    rw [ke] at d11
    have h114 : r_reco N (r_resp (gR S i) M) = r_resp (gR S i) M → ∀ (x3 x4 : Option Value) (bc bs : Nat), FR l D cid m_Q_response X 114 [some (.ref (B 0)), some (.int (nI i)), some (.int (nI (mS M))), x3, x4] [] (hQ f B N sK) bc bs := by
      intro he x3 x4 bc bs
      refine b_Q_response_114 hX _ _ _ _ _ (i_ret ?_)
      refine ⟨rfl, sK, rfl, ?_⟩
      rw [he]
      exact h2
    have loop : ∀ t, t ≤ N → ∀ bc bs, FR l D cid m_Q_response X 21 [some (.ref (B 0)), some (.int (nI i)), some (.int (nI (mS M))), some (.int (gvw (rR (r_resp (gR S i) M)) t)), some (.int (nI t))] [] (hQ f B N sK) bc bs := by
      refine up_to ?_ ?_
      · intro bc bs
        refine b_Q_response_21 hX _ _ _ _ _ (i_iload rfl <| i_aload rfl <| q_getf hB rfl <| i_cmp_t (Int32.le_refl _) ?_)
        have hv := d11 (vv % N) hpn
        cases hk : rR (r_resp (gR S i) M) (vv % N) with
        | none =>
          rw [hk] at hv
          refine b_Q_response_81 hX _ _ _ _ _ (i_push <| i_iload rfl <| i_bin <| i_iload rfl <| i_aload rfl <| q_getf hB rfl <| i_binz (nN0 hN) <| i_bin <| i_istore <| i_aload rfl <| q_getf hB rfl <| i_iload rfl <| q_ald (c := 5 * i + vv % N) hB (hcI) (by show _ < 25; omega) <| i_if_t hv ?_)
          refine h114 ?_ _ _ _ _
          rw [r_reco, if_neg hge', hpd, hk]
        | some L =>
          rw [hk] at hv
          obtain ⟨o1, o2, o3, o4, o5, o6⟩ := hv
          refine b_Q_response_81 hX _ _ _ _ _ (i_push <| i_iload rfl <| i_bin <| i_iload rfl <| i_aload rfl <| q_getf hB rfl <| i_binz (nN0 hN) <| i_bin <| i_istore <| i_aload rfl <| q_getf hB rfl <| i_iload rfl <| q_ald (c := 5 * i + vv % N) hB (hcI) (by show _ < 25; omega) <| i_if_f (fun q => absurd (o1.symm.trans q) (by decide)) ?_)
          rw [hcI]
          refine b_Q_response_103 hX _ _ _ _ _ (i_aload rfl <| q_getf hB rfl <| i_iload rfl <| q_ald (c := 5 * i + vv % N) hB (by first | rfl | simp only [nn_1, nn_5, nn_6, nn_24, nn_64, nn_69, nn_70, nn_320, nn_1656, nI_mul, nI_add]) (by show _ < 25; omega) <| i_iload rfl <| i_cmp ?_ ?_)
          · intro heq
            rw [o3] at heq
            have hL24 := o6.2.1
            have hr1 := rel_norm (v := gvw (rR (r_resp (gR S i) M)) N) (c := mC L) (by omega) hi h2 o6
            rw [g_rep_R, g_rep_rep] at hr1
            refine b_Q_response_115 hX _ _ _ _ _ (i_aload rfl <| q_getf hB rfl <| i_iload rfl <| i_push <| q_ast (c := i) hB (by first | rfl | simp only [nn_1, nn_5, nn_6, nn_24, nn_64, nn_69, nn_70, nn_320, nn_1656, nI_mul, nI_add]) (by show _ < 5; omega) <| i_aload rfl <| q_getf hB rfl <| i_iload rfl <| i_iload rfl <| q_ast (c := i) hB (by first | rfl | simp only [nn_1, nn_5, nn_6, nn_24, nn_64, nn_69, nn_70, nn_320, nn_1656, nI_mul, nI_add]) (by show _ < 5; omega) <| i_aload rfl <| q_getf hB rfl <| i_iload rfl <| i_iload rfl <| q_ast (c := i) hB (by first | rfl | simp only [nn_1, nn_5, nn_6, nn_24, nn_64, nn_69, nn_70, nn_320, nn_1656, nI_mul, nI_add]) (by show _ < 5; omega) <| i_aload rfl <| i_push <| i_iload rfl <| i_bin <| i_iload rfl <| ?_)
            rw [nn_70, nI_add]
            refine j_upV (q_this hB) (sp_Q_copy (a := 70 + (5 * i + vv % N)) (b := i) (L := (mG L).length) hB (by omega) (by omega) o6.1 hL24) rfl rfl ?_
            refine (i_aload rfl <| q_getf hB rfl <| i_iload rfl <| i_aload rfl <| q_getf hB rfl <| i_iload rfl <| q_ald (c := 5 * i + vv % N) hB (by first | rfl | simp only [nn_1, nn_5, nn_6, nn_24, nn_64, nn_69, nn_70, nn_320, nn_1656, nI_mul, nI_add]) (by show _ < 25; omega) <| q_ast (c := i) hB (by first | rfl | simp only [nn_1, nn_5, nn_6, nn_24, nn_64, nn_69, nn_70, nn_320, nn_1656, nI_mul, nI_add]) (by show _ < 5; omega) <| i_aload rfl <| i_iload rfl <| j_upV (q_this hB) (sp_Q_forget hB (by omega)) rfl rfl <| i_ret ?_)
            have e20 : (cp (qw (qw (qw sK 6 i 0) 7 i (gvw (rR (r_resp (gR S i) M)) N)) 8 i (gvw (rR (r_resp (gR S i) M)) N)) (70 + (5 * i + vv % N)) i (mG L).length).1 20 (5 * i + vv % N) = mC L := by
              rw [cp_a, if_neg (by omega), if_neg (by omega), qw_a, if_neg (by omega), qw_a, if_neg (by omega), qw_a, if_neg (by omega)]
              exact o5
            rw [e20]
            refine ⟨rfl, _, rfl, ?_⟩
            have e : r_reco N (r_resp (gR S i) M) = r_normal (r_resp (gR S i) M) (gvw (rR (r_resp (gR S i) M)) N) (mG L) (mC L) := by
              rw [r_reco, if_neg hge', hpd, hk]
              exact if_pos heq
            rw [e]
            exact hr1
          · intro hne
            rw [o3] at hne
            refine h114 ?_ _ _ _ _
            rw [r_reco, if_neg hge', hpd, hk]
            exact if_neg hne
      · intro t ht ih bc bs
        simp only [nI_succ] at ih
        have h74 : ∀ (x : Int32) (y3 : Option Value) (bc bs : Nat), x = gvw (rR (r_resp (gR S i) M)) (t + 1) → FR l D cid m_Q_response X 74 [some (.ref (B 0)), some (.int (nI i)), some (.int (nI (mS M))), y3, some (.int (nI t))] [.int x] (hQ f B N sK) bc bs := by
          intro x y3 bc bs hx
          subst hx
          refine b_Q_response_74 hX _ _ _ _ _ (i_istore <| i_iinc rfl <| i_end ?_)
          exact ih _ _
        have hst := d11 t ht
        refine b_Q_response_21 hX _ _ _ _ _ (i_iload rfl <| i_aload rfl <| q_getf hB rfl <| i_cmp_f (nI_ge ht (by omega)) ?_)
        cases hk : rR (r_resp (gR S i) M) t with
        | none =>
          rw [hk] at hst
          refine b_Q_response_30 hX _ _ _ _ _ (i_aload rfl <| q_getf hB rfl <| i_push <| i_iload rfl <| i_bin <| i_iload rfl <| i_bin <| q_ald (c := 5 * i + t) hB (by first | rfl | simp only [nn_1, nn_5, nn_6, nn_24, nn_64, nn_69, nn_70, nn_320, nn_1656, nI_mul, nI_add]) (by show _ < 25; omega) <| i_if_t hst ?_)
          refine b_Q_response_73 hX _ _ _ _ _ (i_iload rfl <| i_end ?_)
          refine h74 _ _ _ _ ?_
          simp [gvw, hk]
        | some m =>
          rw [hk] at hst
          obtain ⟨o1, o2, o3, o4⟩ := hst
          refine b_Q_response_30 hX _ _ _ _ _ (i_aload rfl <| q_getf hB rfl <| i_push <| i_iload rfl <| i_bin <| i_iload rfl <| i_bin <| q_ald (c := 5 * i + t) hB (by first | rfl | simp only [nn_1, nn_5, nn_6, nn_24, nn_64, nn_69, nn_70, nn_320, nn_1656, nI_mul, nI_add]) (by show _ < 25; omega) <| i_if_f (fun q => absurd (o1.symm.trans q) (by decide)) ?_)
          refine b_Q_response_44 hX _ _ _ _ _ (i_aload rfl <| q_getf hB rfl <| i_push <| i_iload rfl <| i_bin <| i_iload rfl <| i_bin <| q_ald (c := 5 * i + t) hB (by first | rfl | simp only [nn_1, nn_5, nn_6, nn_24, nn_64, nn_69, nn_70, nn_320, nn_1656, nI_mul, nI_add]) (by show _ < 25; omega) <| i_iload rfl <| i_cmp ?_ ?_)
          · intro hle
            rw [o3] at hle
            refine b_Q_response_73 hX _ _ _ _ _ (i_iload rfl <| i_end ?_)
            refine h74 _ _ _ _ ?_
            simp only [gvw, hk]
            rw [← mx_le, if_pos hle]
          · intro hle
            rw [o3] at hle
            refine b_Q_response_59 hX _ _ _ _ _ (i_aload rfl <| q_getf hB rfl <| i_push <| i_iload rfl <| i_bin <| i_iload rfl <| i_bin <| q_ald (c := 5 * i + t) hB (by first | rfl | simp only [nn_1, nn_5, nn_6, nn_24, nn_64, nn_69, nn_70, nn_320, nn_1656, nI_mul, nI_add]) (by show _ < 25; omega) <| i_end ?_)
            refine h74 _ _ _ _ ?_
            simp only [gvw, hk]
            rw [o3, ← mx_le, if_neg hle]
    refine b_Q_response_16 hX _ _ _ _ _ (i_push <| i_istore <| i_push <| i_istore <| i_end ?_)
    exact loop 0 (Nat.zero_le _) _ _
  · intro hlt
    have hle : cnt (rR (r_resp (gR S i) M)) N ≤ nI (N / 2) := Classical.byContradiction (fun q => hlt (hcmp.mpr q))
    refine b_Q_response_15 hX _ _ _ _ _ (i_ret ?_)
    refine ⟨rfl, sK, rfl, ?_⟩
    rw [r_reco, if_pos hle]
    exact h2
end QSE
