section QSI
variable {l : Launch} {D : va_G} {cid : Nat → ClassId} {f : HF} {B : Nat → Nat} {N n i : Nat} {s s' : QS} {S : GS} {o : Option Msg} {M : Msg}
theorem i_sw7 {lv : LV} {r : List Value} {F : HF} {bc bs : Nat} {x : Int32} {k1 k2 k3 k4 k5 k6 k7 kd : KN} (h1 : x = 1 → k1 lv r F bc bs) (h2 : x = 2 → k2 lv r F bc bs) (h3 : x = 3 → k3 lv r F bc bs) (h4 : x = 4 → k4 lv r F bc bs) (h5 : x = 5 → k5 lv r F bc bs) (h6 : x = 6 → k6 lv r F bc bs) (h7 : x = 7 → k7 lv r F bc bs)
    (hd : ¬ x = 1 → ¬ x = 2 → ¬ x = 3 → ¬ x = 4 → ¬ x = 5 → ¬ x = 6 → ¬ x = 7 → kd lv r F bc bs) : seg [] (t_sw 1 7 [k1, k2, k3, k4, k5, k6, k7] kd) lv (.int x :: r) F bc bs := by
  have e : ∀ n : Nat, n < 2 ^ 31 → x.toInt = (n : Int) → x = nI n := fun n hn h => Int32.toInt_inj.mp (h.trans (nI_toInt hn).symm)
  have o : ∀ n : Nat, n < 2 ^ 31 → x = nI n → x.toInt = (n : Int) := fun n hn h => by rw [h, nI_toInt hn]
  refine ⟨x, r, rfl, fun h => ?_, fun i k hi hk => ?_⟩
  · exact hd (fun q => by have := o 1 (by decide) q; omega) (fun q => by have := o 2 (by decide) q; omega) (fun q => by have := o 3 (by decide) q; omega) (fun q => by have := o 4 (by decide) q; omega) (fun q => by have := o 5 (by decide) q; omega) (fun q => by have := o 6 (by decide) q; omega) (fun q => by have := o 7 (by decide) q; omega)
  · rcases i with _ | _ | _ | _ | _ | _ | _ | i
    · cases hk; exact h1 (e 1 (by decide) hi)
    · cases hk; exact h2 (e 2 (by decide) hi)
    · cases hk; exact h3 (e 3 (by decide) hi)
    · cases hk; exact h4 (e 4 (by decide) hi)
    · cases hk; exact h5 (e 5 (by decide) hi)
    · cases hk; exact h6 (e 6 (by decide) hi)
    · cases hk; exact h7 (e 7 (by decide) hi)
    · simp at hk
theorem sp_Q_act (hB : QI B) (hN : N = 3 ∨ N = 5) (hi : i < N) (hR : Rel N s S (some M)) (hI : Inv N n S) (hM : InvM N n M) (hd : mD M = i) (hn : n < 2 ^ 30) (hT : gT S < 2 ^ 28) (hs : rS (gR S i) = 2 ↔ mK M = 8) : CS l D cid m_Q_act [.ref (B 0), .int (nI i), .int (nI (mS M))] (hQ f B N s) (PQ f B N none (g_kind N S i M) (some M)) := by
  intro X hX
  have c2 : s.1 23 64 = mK M := (msg_at hR).2.1
  obtain ⟨a1, a2, a3, a4, a5, a6⟩ := hR.2.2.2.1 i hi
  have h137 : ∀ (s1 : QS) (S1 : GS) (bc bs : Nat), Rel N s1 S1 (some M) → S1 = g_kind N S i M → FR l D cid m_Q_act X 137 [some (.ref (B 0)), some (.int (nI i)), some (.int (nI (mS M)))] [] (hQ f B N s1) bc bs := by
    intro s1 S1 bc bs h1 he
    subst he
    refine b_Q_act_137 hX _ _ _ _ _ (i_ret ?_)
    exact ⟨rfl, s1, rfl, h1⟩
  refine b_Q_act_0 hX _ _ _ _ _ (i_aload rfl <| q_getf hB rfl <| i_push <| q_ald (c := 64) hB (by first | rfl | simp only [nn_1, nn_5, nn_6, nn_24, nn_64, nn_69, nn_70, nn_320, nn_1656, nI_mul, nI_add]) (by show _ < 65; omega) <| i_sw7 ?_ ?_ ?_ ?_ ?_ ?_ ?_ ?_)
  · intro hk
    rw [c2] at hk
    refine b_Q_act_48 hX _ _ _ _ _ (i_aload rfl <| i_iload rfl <| i_iload rfl <| ?_)
    refine j_callV (q_this hB) (sp_Q_prepare hB hN hi hR hI hM (by omega)) rfl rfl ?_
    rintro w F' ⟨rfl, s1, rfl, h1⟩
    refine (i_end ?_)
    exact h137 s1 _ _ _ h1 (by rw [g_kind, if_pos hk])
  · intro hk
    rw [c2] at hk
    refine b_Q_act_57 hX _ _ _ _ _ (i_aload rfl <| i_iload rfl <| i_iload rfl <| ?_)
    refine j_callV (q_this hB) (sp_Q_ok hB hN hi hR hI hM hd hn) rfl rfl ?_
    rintro w F' ⟨rfl, s1, rfl, h1⟩
    refine (i_end ?_)
    exact h137 s1 _ _ _ h1 (by rw [g_kind, hk, if_neg (by decide), if_pos rfl])
  · intro hk
    rw [c2] at hk
    have eg : g_kind N S i M = g_reply S i M 4 := by rw [g_kind, hk, if_neg (by decide), if_neg (by decide), if_pos rfl]
    refine b_Q_act_66 hX _ _ _ _ _ (i_aload rfl <| q_getf hB rfl <| i_iload rfl <| q_ald (c := i) hB (by first | rfl | simp only [nn_1, nn_5, nn_6, nn_24, nn_64, nn_69, nn_70, nn_320, nn_1656, nI_mul, nI_add]) (by show _ < 5; omega) <| i_if ?_ ?_)
    · intro h
      rw [a1] at h
      exact h137 s _ _ _ hR (by rw [eg, g_reply, if_neg h])
    · intro h
      have h' := Classical.not_not.mp h
      rw [a1] at h'
      refine b_Q_act_75 hX _ _ _ _ _ (i_aload rfl <| i_iload rfl <| i_iload rfl <| i_push <| j_upV (q_this hB) (sp_Q_send (d := mS M) (what := 4) hB (by omega) hR.1 (by omega) a5.1 a5.2.1) rfl rfl <| i_end ?_)
      exact h137 _ _ _ _ (rel_send (by omega) hi hR) (by rw [eg, g_reply, if_pos h'])
  · intro hk
    rw [c2] at hk
    refine b_Q_act_85 hX _ _ _ _ _ (i_aload rfl <| i_iload rfl <| ?_)
    refine j_callV (q_this hB) (sp_Q_state hB hN hi hR hM hn (by omega)) rfl rfl ?_
    rintro w F' ⟨rfl, s1, rfl, h1⟩
    refine (i_end ?_)
    exact h137 s1 _ _ _ h1 (by rw [g_kind, hk, if_neg (by decide), if_neg (by decide), if_neg (by decide), if_pos rfl])
  · intro hk
    rw [c2] at hk
    refine b_Q_act_93 hX _ _ _ _ _ (i_aload rfl <| i_iload rfl <| i_iload rfl <| ?_)
    refine j_callV (q_this hB) (sp_Q_change hB hN hi hR hI hM hn hT) rfl rfl ?_
    rintro w F' ⟨rfl, s1, rfl, h1⟩
    refine (i_end ?_)
    exact h137 s1 _ _ _ h1 (by rw [g_kind, hk, if_neg (show ¬ (5 : Int32) = 1 by decide), if_neg (show ¬ (5 : Int32) = 2 by decide), if_neg (show ¬ (5 : Int32) = 3 by decide), if_neg (show ¬ (5 : Int32) = 4 by decide), if_pos rfl])
  · intro hk
    rw [c2] at hk
    refine b_Q_act_102 hX _ _ _ _ _ (i_aload rfl <| i_iload rfl <| i_iload rfl <| ?_)
    refine j_callV (q_this hB) (sp_Q_paper hB hN hi hR hI hM hT) rfl rfl ?_
    rintro w F' ⟨rfl, s1, rfl, h1⟩
    refine (i_end ?_)
    exact h137 s1 _ _ _ h1 (by rw [g_kind, hk, if_neg (show ¬ (6 : Int32) = 1 by decide), if_neg (show ¬ (6 : Int32) = 2 by decide), if_neg (show ¬ (6 : Int32) = 3 by decide), if_neg (show ¬ (6 : Int32) = 4 by decide), if_neg (show ¬ (6 : Int32) = 5 by decide), if_pos rfl])
  · intro hk
    rw [c2] at hk
    have eg : g_kind N S i M = g_reply S i M 8 := by rw [g_kind, hk, if_neg (by decide), if_neg (by decide), if_neg (by decide), if_neg (by decide), if_neg (by decide), if_neg (by decide), if_pos rfl]
    refine b_Q_act_111 hX _ _ _ _ _ (i_aload rfl <| q_getf hB rfl <| i_iload rfl <| q_ald (c := i) hB (by first | rfl | simp only [nn_1, nn_5, nn_6, nn_24, nn_64, nn_69, nn_70, nn_320, nn_1656, nI_mul, nI_add]) (by show _ < 5; omega) <| i_if ?_ ?_)
    · intro h
      rw [a1] at h
      exact h137 s _ _ _ hR (by rw [eg, g_reply, if_neg h])
    · intro h
      have h' := Classical.not_not.mp h
      rw [a1] at h'
      refine b_Q_act_120 hX _ _ _ _ _ (i_aload rfl <| i_iload rfl <| i_iload rfl <| i_push <| j_upV (q_this hB) (sp_Q_send (d := mS M) (what := 8) hB (by omega) hR.1 (by omega) a5.1 a5.2.1) rfl rfl <| i_end ?_)
      exact h137 _ _ _ _ (rel_send (by omega) hi hR) (by rw [eg, g_reply, if_pos h'])
  · intro k1 k2 k3 k4 k5 k6 k7
    rw [c2] at k1 k2 k3 k4 k5 k6 k7
    have hk : mK M = 8 := by
      obtain ⟨k, h1, h2, h3⟩ := hM.2.2.2.1
      rw [h3] at k1 k2 k3 k4 k5 k6 k7 ⊢
      have e : k = 8 := by
        rcases k with _ | _ | _ | _ | _ | _ | _ | _ | _ | k
        · omega
        · exact absurd rfl k1
        · exact absurd rfl k2
        · exact absurd rfl k3
        · exact absurd rfl k4
        · exact absurd rfl k5
        · exact absurd rfl k6
        · exact absurd rfl k7
        · rfl
        · omega
      rw [e]
      rfl
    refine b_Q_act_131 hX _ _ _ _ _ (i_aload rfl <| i_iload rfl <| i_iload rfl <| ?_)
    refine j_callV (q_this hB) (sp_Q_response hB hN hi hR hI hM hd hn (hs.mpr hk)) rfl rfl ?_
    rintro w F' ⟨rfl, s1, rfl, h1⟩
    refine (i_end ?_)
    exact h137 s1 _ _ _ h1 (by rw [g_kind, if_neg k1, if_neg k2, if_neg k3, if_neg k4, if_neg k5, if_neg k6, if_neg k7, if_pos hk])
theorem rel_cur (hN : N ≤ 5) (h : Rel N s S o) (h2 : s'.2 = s.2) (hs : ∀ j x, ¬ inM 64 j x → s'.1 j x = s.1 j x) (hM : MsgQ s' N 64 M) : Rel N s' S (some M) := by
  obtain ⟨a1, a2, a3, a4, a5, a6⟩ := h
  refine ⟨by rw [h2]; exact a1, by rw [h2]; exact a2, fun c hc => ?_, fun i hi => (a4 i hi).cg hN (fun j x hx => hs j x (inR_M (by omega) (Nat.le_refl 64) hx)), fun k hk hk2 => ?_, fun M' hM' => ?_⟩
  · rw [hs 30 c (by unfold inM; omega), hs 31 c (by unfold inM; omega)]
    exact a3 c hc
  · obtain ⟨b1, b2⟩ := a5 k hk hk2
    have hm : k % 64 < 64 := Nat.mod_lt _ (by decide)
    exact ⟨b1.cg hN (fun j x hx => hs j x (inM_M (by omega) hx)), (hs 22 _ (by unfold inM; omega)).trans b2⟩
  · cases hM'
    exact hM
theorem Rel.none (h : Rel N s S o) : Rel N s S none := ⟨h.1, h.2.1, h.2.2.1, h.2.2.2.1, h.2.2.2.2.1, fun _ q => by cases q⟩
def hd5 (s : QS) (m : Nat) (x : Int32) : QS := qw (qw (qw (qw (qw s 21 64 x) 23 64 (s.1 23 m)) 24 64 (s.1 24 m)) 25 64 (s.1 25 m)) 26 64 (s.1 26 m)
def stp (s : QS) (m n : Nat) : QS := (fun j x => if j = 27 ∧ 320 ≤ x ∧ x < 320 + n then s.1 27 (5 * m + (x - 320)) else s.1 j x, s.2)
theorem stp_a (s : QS) (m n j x : Nat) : (stp s m n).1 j x = if j = 27 ∧ 320 ≤ x ∧ x < 320 + n then s.1 27 (5 * m + (x - 320)) else s.1 j x := rfl
theorem stp_0 (s : QS) (m : Nat) : stp s m 0 = s := by
  refine QS_ext (fun j x => ?_) rfl
  rw [stp_a, if_neg (by omega)]
theorem stp_r {m n t : Nat} (hm : m < 64) (ht : t < 5) : (stp s m n).1 27 (5 * m + t) = s.1 27 (5 * m + t) := by
  rw [stp_a, if_neg (by omega)]
theorem stp_s {m t : Nat} (hm : m < 64) (ht : t < 5) : qw (stp s m t) 27 (320 + t) ((stp s m t).1 27 (5 * m + t)) = stp s m (t + 1) := by
  refine QS_ext (fun j x => ?_) rfl
  rw [stp_r hm ht]
  simp only [qw_a, stp_a]
  grind
theorem hd5_n {m j x : Nat} {y : Int32} (h : ¬ (21 ≤ j ∧ j ≤ 26 ∧ x = 64)) : (hd5 s m y).1 j x = s.1 j x := by
  unfold hd5
  rw [qw_a, if_neg (by omega), qw_a, if_neg (by omega), qw_a, if_neg (by omega), qw_a, if_neg (by omega), qw_a, if_neg (by omega)]
theorem rel_take {m : Nat} (hN : N ≤ 5) (hm : m < 64) (h : Rel N s S o) (hM : MsgQ s N m M) : Rel N (cp (stp (hd5 s m (nI (mS M))) m 5) (5 + m) 69 (mG M).length) S (some M) := by
  obtain ⟨c1, c2, c3, c4, c5, c6, c7⟩ := hM
  have hL := c7.2.1
  refine rel_cur hN h rfl (fun j x hx => ?_) ⟨?_, ?_, ?_, ?_, ?_, fun t ht => ?_, ?_⟩
  · unfold inM at hx
    rw [cp_a, if_neg (by omega), if_neg (by omega), stp_a, if_neg (by omega)]
    exact hd5_n (by omega)
  · rw [cp_a, if_neg (by omega), if_neg (by omega), stp_a, if_neg (by omega)]
    unfold hd5
    rw [qw_a, if_neg (by omega), qw_a, if_neg (by omega), qw_a, if_neg (by omega), qw_a, if_neg (by omega), qw_a, if_pos ⟨rfl, rfl⟩]
  · rw [cp_a, if_neg (by omega), if_neg (by omega), stp_a, if_neg (by omega)]
    unfold hd5
    rw [qw_a, if_neg (by omega), qw_a, if_neg (by omega), qw_a, if_neg (by omega), qw_a, if_pos ⟨rfl, rfl⟩]
    exact c2
  · rw [cp_a, if_neg (by omega), if_neg (by omega), stp_a, if_neg (by omega)]
    unfold hd5
    rw [qw_a, if_neg (by omega), qw_a, if_neg (by omega), qw_a, if_pos ⟨rfl, rfl⟩]
    exact c3
  · rw [cp_a, if_neg (by omega), if_neg (by omega), stp_a, if_neg (by omega)]
    unfold hd5
    rw [qw_a, if_neg (by omega), qw_a, if_pos ⟨rfl, rfl⟩]
    exact c4
  · rw [cp_a, if_neg (by omega), if_neg (by omega), stp_a, if_neg (by omega)]
    unfold hd5
    rw [qw_a, if_pos ⟨rfl, rfl⟩]
    exact c5
  · rw [cp_a, if_neg (by omega), if_neg (by omega), stp_a, if_pos (by omega), show 5 * m + (5 * 64 + t - 320) = 5 * m + t by omega, hd5_n (by omega)]
    exact c6 t ht
  · have hrow : RowQ (stp (hd5 s m (nI (mS M))) m 5) (5 + m) (mG M) := c7.mv (by rw [stp_a, if_neg (by omega)]; exact hd5_n (by omega)) (fun j k h1 h2 h3 => by rw [stp_a, if_neg (by omega)]; exact hd5_n (by omega))
    exact hrow.cpy
def PR (f : HF) (B : Nat → Nat) (N : Nat) (w : Int32) (S' : GS) : PT := fun v f' => v = some (.int w) ∧ ∃ s', f' = hQ f B N s' ∧ Rel N s' S' none
theorem sp_Q_receive {m : Nat} (hB : QI B) (hN : N = 3 ∨ N = 5) (hm : m < 64) (hR : Rel N s S none) (hMQ : MsgQ s N m M) (hto : s.1 22 m = nI (mD M)) (hI : Inv N n S) (hM : InvM N n M) (hn : n < 2 ^ 30) (hT : gT S < 2 ^ 28) : CS l D cid m_Q_receive [.ref (B 0), .int (nI m)] (hQ f B N s) (PR f B N (g_recv N S M).1 (g_recv N S M).2) := by
  intro X hX
  have hms := hM.1
  have hmd := hM.2.1
  obtain ⟨c1, c2, c3, c4, c5, c6, c7⟩ := id hMQ
  obtain ⟨a1, a2, a3, a4, a5, a6, a7⟩ := hR.2.2.2.1 (mD M) hmd
  have h62 : ¬ (¬ rS (gR S (mD M)) = 3 ∧ (rS (gR S (mD M)) = 2 ↔ mK M = 8)) → ∀ (x4 x5 : Option Value) (bc bs : Nat), FR l D cid m_Q_receive X 62 [some (.ref (B 0)), some (.int (nI m)), some (.int (nI (mD M))), some (.int (nI (mS M))), x4, x5] [] (hQ f B N s) bc bs := by
    intro hc x4 x5 bc bs
    refine b_Q_receive_62 hX _ _ _ _ _ (i_push <| i_iret ?_)
    have e : g_recv N S M = (0, S) := by rw [g_recv, if_pos hc]
    rw [e]
    exact ⟨rfl, s, rfl, hR⟩
  have h64 : ∀ (bb : Bool), bb = decide (mK M = 8) → (¬ rS (gR S (mD M)) = 3 ∧ (rS (gR S (mD M)) = 2 ↔ mK M = 8)) → ∀ bc bs, FR l D cid m_Q_receive X 64 [some (.ref (B 0)), some (.int (nI m)), some (.int (nI (mD M))), some (.int (nI (mS M))), some (.int (bI bb)), none] [] (hQ f B N s) bc bs := by
    intro bb hbb hh bc bs
    have h115 : (mX M (mS M) < rX (gR S (mD M)) (mS M) ∨ (mK M = 8 ∧ ¬ mX M (mD M) = rX (gR S (mD M)) (mD M))) → ∀ bc bs, FR l D cid m_Q_receive X 115 [some (.ref (B 0)), some (.int (nI m)), some (.int (nI (mD M))), some (.int (nI (mS M))), some (.int (bI bb)), none] [] (hQ f B N s) bc bs := by
      intro hc bc bs
      refine b_Q_receive_115 hX _ _ _ _ _ (i_push <| i_iret ?_)
      have e : g_recv N S M = (1, S) := by rw [g_recv, if_neg (fun z => z hh), if_pos hc]
      rw [e]
      exact ⟨rfl, s, rfl, hR⟩
    have h117 : ¬ (mX M (mS M) < rX (gR S (mD M)) (mS M) ∨ (mK M = 8 ∧ ¬ mX M (mD M) = rX (gR S (mD M)) (mD M))) → ∀ bc bs, FR l D cid m_Q_receive X 117 [some (.ref (B 0)), some (.int (nI m)), some (.int (nI (mD M))), some (.int (nI (mS M))), some (.int (bI bb)), none] [] (hQ f B N s) bc bs := by
      intro hc bc bs
      have eS : g_recv N S M = (2, g_kind N (g_rep S (mD M) (r_raise (gR S (mD M)) (mX M))) (mD M) M) := by
        rw [g_recv, if_neg (fun z => z hh), if_neg hc]
      have loop : ∀ t, t ≤ 5 → ∀ bc bs, FR l D cid m_Q_receive X 180 [some (.ref (B 0)), some (.int (nI m)), some (.int (nI (mD M))), some (.int (nI (mS M))), some (.int (bI bb)), some (.int (nI t))] [] (hQ f B N (stp (hd5 s m (nI (mS M))) m t)) bc bs := by
        refine up_to ?_ ?_
        · intro bc bs
          refine b_Q_receive_180 hX _ _ _ _ _ (i_iload rfl <| i_push <| i_cmp_t (Int32.le_refl _) ?_)
          refine b_Q_receive_214 hX _ _ _ _ _ (i_aload rfl <| i_push <| i_iload rfl <| i_bin <| i_push <| ?_)
          rw [nn_5, nI_add]
          refine j_upV (q_this hB) (sp_Q_copy (a := 5 + m) (b := 69) (L := (mG M).length) hB (by omega) (by omega) ?_ c7.2.1) rfl rfl ?_
          · rw [stp_a, if_neg (by omega), hd5_n (by omega)]
            exact c7.1
          · have h1 := rel_take (by omega) hm hR hMQ
            have h2 := rel_learn (by omega) hmd h1
            have hIr := inv_rep hI (inv_raise (w := mX M) (hI.1 _ hmd))
            refine (i_aload rfl <| i_iload rfl <| j_upV (q_this hB) (sp_Q_learn hB (by omega) hmd) rfl rfl <| i_aload rfl <| i_iload rfl <| i_iload rfl <| ?_)
            refine j_callV (q_this hB) (sp_Q_act hB hN hmd h2 hIr hM rfl hn hT (by rw [g_rep_R]; exact hh.2)) rfl rfl ?_
            rintro w F' ⟨rfl, s9, rfl, h9⟩
            refine (i_push <| i_iret ?_)
            rw [eS]
            exact ⟨rfl, s9, rfl, h9.none⟩
        · intro t ht ih bc bs
          simp only [nI_succ] at ih
          refine b_Q_receive_180 hX _ _ _ _ _ (i_iload rfl <| i_push <| i_cmp_f (nI_ge ht (by decide)) ?_)
          refine b_Q_receive_186 hX _ _ _ _ _ (i_aload rfl <| q_getf hB rfl <| i_push <| i_iload rfl <| i_bin <| i_aload rfl <| q_getf hB rfl <| i_push <| i_iload rfl <| i_bin <| i_iload rfl <| i_bin <| q_ald (c := 5 * m + t) hB (by first | rfl | simp only [nn_1, nn_5, nn_6, nn_24, nn_64, nn_69, nn_70, nn_320, nn_1656, nI_mul, nI_add]) (by show _ < 325; omega) <| q_ast (c := 320 + t) hB (by first | rfl | simp only [nn_1, nn_5, nn_6, nn_24, nn_64, nn_69, nn_70, nn_320, nn_1656, nI_mul, nI_add]) (by show _ < 325; omega) <| i_iinc rfl <| i_end ?_)
          rw [stp_s hm ht]
          exact ih _ _
      refine b_Q_receive_117 hX _ _ _ _ _ (i_aload rfl <| q_getf hB rfl <| i_push <| i_iload rfl <| q_ast (c := 64) hB (by first | rfl | simp only [nn_1, nn_5, nn_6, nn_24, nn_64, nn_69, nn_70, nn_320, nn_1656, nI_mul, nI_add]) (by show _ < 65; omega) <| i_aload rfl <| q_getf hB rfl <| i_push <| i_aload rfl <| q_getf hB rfl <| i_iload rfl <| q_ald (c := m) hB (by first | rfl | simp only [nn_1, nn_5, nn_6, nn_24, nn_64, nn_69, nn_70, nn_320, nn_1656, nI_mul, nI_add]) (by show _ < 65; omega) <| q_ast (c := 64) hB (by first | rfl | simp only [nn_1, nn_5, nn_6, nn_24, nn_64, nn_69, nn_70, nn_320, nn_1656, nI_mul, nI_add]) (by show _ < 65; omega) <| i_aload rfl <| q_getf hB rfl <| i_push <| i_aload rfl <| q_getf hB rfl <| i_iload rfl <| q_ald (c := m) hB (by first | rfl | simp only [nn_1, nn_5, nn_6, nn_24, nn_64, nn_69, nn_70, nn_320, nn_1656, nI_mul, nI_add]) (by show _ < 65; omega) <| q_ast (c := 64) hB (by first | rfl | simp only [nn_1, nn_5, nn_6, nn_24, nn_64, nn_69, nn_70, nn_320, nn_1656, nI_mul, nI_add]) (by show _ < 65; omega) <| i_aload rfl <| q_getf hB rfl <| i_push <| i_aload rfl <| q_getf hB rfl <| i_iload rfl <| q_ald (c := m) hB (by first | rfl | simp only [nn_1, nn_5, nn_6, nn_24, nn_64, nn_69, nn_70, nn_320, nn_1656, nI_mul, nI_add]) (by show _ < 65; omega) <| q_ast (c := 64) hB (by first | rfl | simp only [nn_1, nn_5, nn_6, nn_24, nn_64, nn_69, nn_70, nn_320, nn_1656, nI_mul, nI_add]) (by show _ < 65; omega) <| i_aload rfl <| q_getf hB rfl <| i_push <| i_aload rfl <| q_getf hB rfl <| i_iload rfl <| q_ald (c := m) hB (by first | rfl | simp only [nn_1, nn_5, nn_6, nn_24, nn_64, nn_69, nn_70, nn_320, nn_1656, nI_mul, nI_add]) (by show _ < 65; omega) <| q_ast (c := 64) hB (by first | rfl | simp only [nn_1, nn_5, nn_6, nn_24, nn_64, nn_69, nn_70, nn_320, nn_1656, nI_mul, nI_add]) (by show _ < 65; omega) <| i_push <| i_istore <| i_end ?_)
      have hq := loop 0 (Nat.zero_le _)
      rw [stp_0] at hq
      exact hq _ _
    refine b_Q_receive_64 hX _ _ _ _ _ (i_aload rfl <| q_getf hB rfl <| i_push <| i_iload rfl <| i_bin <| i_iload rfl <| i_bin <| q_ald (c := 5 * m + mS M) hB (by first | rfl | simp only [nn_1, nn_5, nn_6, nn_24, nn_64, nn_69, nn_70, nn_320, nn_1656, nI_mul, nI_add]) (by show _ < 325; omega) <| i_aload rfl <| q_getf hB rfl <| i_push <| i_iload rfl <| i_bin <| i_iload rfl <| i_bin <| q_ald (c := 5 * mD M + mS M) hB (by first | rfl | simp only [nn_1, nn_5, nn_6, nn_24, nn_64, nn_69, nn_70, nn_320, nn_1656, nI_mul, nI_add]) (by show _ < 25; omega) <| i_cmp ?_ ?_)
    · intro h
      rw [c6 _ hms, a6 _ hms] at h
      exact h115 (Or.inl h) _ _
    · intro h
      rw [c6 _ hms, a6 _ hms] at h
      refine b_Q_receive_87 hX _ _ _ _ _ (i_iload rfl <| i_ifb ?_ ?_)
      · intro hf
        have h8 := of_decide_eq_false (hbb.symm.trans hf)
        exact h117 (fun q => q.elim h (fun z => h8 z.1)) _ _
      · intro ht
        have h8 := of_decide_eq_true (hbb.symm.trans ht)
        refine b_Q_receive_92 hX _ _ _ _ _ (i_aload rfl <| q_getf hB rfl <| i_push <| i_iload rfl <| i_bin <| i_iload rfl <| i_bin <| q_ald (c := 5 * m + mD M) hB (by first | rfl | simp only [nn_1, nn_5, nn_6, nn_24, nn_64, nn_69, nn_70, nn_320, nn_1656, nI_mul, nI_add]) (by show _ < 325; omega) <| i_aload rfl <| q_getf hB rfl <| i_push <| i_iload rfl <| i_bin <| i_iload rfl <| i_bin <| q_ald (c := 5 * mD M + mD M) hB (by first | rfl | simp only [nn_1, nn_5, nn_6, nn_24, nn_64, nn_69, nn_70, nn_320, nn_1656, nI_mul, nI_add]) (by show _ < 25; omega) <| i_cmp ?_ ?_)
        · intro he
          rw [c6 _ hmd, a6 _ hmd] at he
          exact h117 (fun q => q.elim h (fun z => z.2 he)) _ _
        · intro he
          rw [c6 _ hmd, a6 _ hmd] at he
          exact h115 (Or.inr ⟨h8, he⟩) _ _
  have h30 : ∀ (bb : Bool) (bc bs : Nat), bb = decide (mK M = 8) → FR l D cid m_Q_receive X 30 [some (.ref (B 0)), some (.int (nI m)), some (.int (nI (mD M))), some (.int (nI (mS M))), none, none] [.int (bI bb)] (hQ f B N s) bc bs := by
    intro bb bc bs hbb
    have h59 : ∀ (b2 : Bool) (bc bs : Nat), ¬ rS (gR S (mD M)) = 3 → b2 = decide (rS (gR S (mD M)) = 2) → FR l D cid m_Q_receive X 59 [some (.ref (B 0)), some (.int (nI m)), some (.int (nI (mD M))), some (.int (nI (mS M))), some (.int (bI bb)), none] [.int (bI b2), .int (bI bb)] (hQ f B N s) bc bs := by
      intro b2 bc bs h3 hb2
      have key : (bI bb = bI b2) ↔ (rS (gR S (mD M)) = 2 ↔ mK M = 8) := by
        rw [hbb, hb2]
        by_cases q1 : rS (gR S (mD M)) = 2 <;> by_cases q2 : mK M = 8 <;> simp [q1, q2, bI]
      refine b_Q_receive_59 hX _ _ _ _ _ (i_cmp ?_ ?_)
      · intro he
        exact h64 bb hbb ⟨h3, key.mp he⟩ _ _
      · intro he
        exact h62 (fun q => he (key.mpr q.2)) _ _ _ _
    refine b_Q_receive_30 hX _ _ _ _ _ (i_istore <| i_aload rfl <| q_getf hB rfl <| i_iload rfl <| q_ald (c := mD M) hB (by first | rfl | simp only [nn_1, nn_5, nn_6, nn_24, nn_64, nn_69, nn_70, nn_320, nn_1656, nI_mul, nI_add]) (by show _ < 5; omega) <| i_push <| i_cmp ?_ ?_)
    · intro h
      rw [a1] at h
      exact h62 (fun q => q.1 h) _ _ _ _
    · intro h
      rw [a1] at h
      refine b_Q_receive_42 hX _ _ _ _ _ (i_iload rfl <| i_aload rfl <| q_getf hB rfl <| i_iload rfl <| q_ald (c := mD M) hB (by first | rfl | simp only [nn_1, nn_5, nn_6, nn_24, nn_64, nn_69, nn_70, nn_320, nn_1656, nI_mul, nI_add]) (by show _ < 5; omega) <| i_push <| i_cmp ?_ ?_)
      · intro h'
        rw [a1] at h'
        refine b_Q_receive_58 hX _ _ _ _ _ (i_push <| i_end ?_)
        exact h59 false _ _ h (decide_eq_false h').symm
      · intro h'
        have h'' := Classical.not_not.mp h'
        rw [a1] at h''
        refine b_Q_receive_54 hX _ _ _ _ _ (i_push <| i_end ?_)
        exact h59 true _ _ h (decide_eq_true h'').symm
  refine b_Q_receive_0 hX _ _ _ _ _ (i_aload rfl <| q_getf hB rfl <| i_iload rfl <| q_ald (c := m) hB (by first | rfl | simp only [nn_1, nn_5, nn_6, nn_24, nn_64, nn_69, nn_70, nn_320, nn_1656, nI_mul, nI_add]) (by show _ < 65; omega) <| i_istore <| i_aload rfl <| q_getf hB rfl <| i_iload rfl <| q_ald (c := m) hB (by first | rfl | simp only [nn_1, nn_5, nn_6, nn_24, nn_64, nn_69, nn_70, nn_320, nn_1656, nI_mul, nI_add]) (by show _ < 65; omega) <| i_istore <| i_aload rfl <| q_getf hB rfl <| i_iload rfl <| q_ald (c := m) hB (by first | rfl | simp only [nn_1, nn_5, nn_6, nn_24, nn_64, nn_69, nn_70, nn_320, nn_1656, nI_mul, nI_add]) (by show _ < 65; omega) <| i_push <| i_cmp ?_ ?_)
  · intro h
    rw [c2] at h
    rw [hto, c1]
    refine b_Q_receive_29 hX _ _ _ _ _ (i_push <| i_end ?_)
    exact h30 false _ _ (decide_eq_false h).symm
  · intro h
    have h' := Classical.not_not.mp h
    rw [c2] at h'
    rw [hto, c1]
    refine b_Q_receive_25 hX _ _ _ _ _ (i_push <| i_end ?_)
    exact h30 true _ _ (decide_eq_true h').symm
theorem sp_Q_there {k : Int32} (hB : QI B) (hR : Rel N s S o) (hT : gT S < 2 ^ 28) : CS l D cid m_Q_there [.ref (B 0), .int k] (hQ f B N s) (fun v f' => v = some (.int (bI (fms S k).isSome)) ∧ f' = hQ f B N s) := by
  intro X hX
  have hT' := hR.1
  have fin : ∀ (b : Bool) (bc bs : Nat), b = (fms S k).isSome → FR l D cid m_Q_there X 28 [some (.ref (B 0)), some (.int k)] [.int (bI b)] (hQ f B N s) bc bs := by
    intro b bc bs hb
    refine b_Q_there_28 hX _ _ _ _ _ (i_zret ?_)
    exact ⟨by rw [hb], rfl⟩
  refine b_Q_there_0 hX _ _ _ _ _ (i_iload rfl <| i_if ?_ ?_)
  · intro h
    refine b_Q_there_27 hX _ _ _ _ _ (i_push <| i_end ?_)
    exact fin false _ _ (by rw [fms, if_neg (fun q => q.1 h)]; rfl)
  · intro h
    obtain ⟨kk, hkk, rfl⟩ := nI_of h
    have hcl := nI_clamp hkk
    refine b_Q_there_4 hX _ _ _ _ _ (i_iload rfl <| i_aload rfl <| q_getf hB rfl <| i_cmp ?_ ?_)
    · intro h'
      rw [hT'] at h'
      refine b_Q_there_27 hX _ _ _ _ _ (i_push <| i_end ?_)
      refine fin false _ _ ?_
      rw [fms, hcl, if_neg (fun q => nI_ge q.2.1 (by omega) h')]
      rfl
    · intro h'
      rw [hT'] at h'
      have hlt : kk < gT S := by
        rcases Nat.lt_or_ge kk (gT S) with h2 | h2
        · exact h2
        · exact absurd (nI_le h2 hkk) h'
      have key : (nI kk < nI (gT S) - 64) ↔ ¬ gT S ≤ kk + 64 := by
        rw [Int32.lt_iff_toInt_lt, nI_toInt hkk, nn_64, pk_sub_toInt (by omega) (by omega)]
        omega
      refine b_Q_there_12 hX _ _ _ _ _ (i_iload rfl <| i_aload rfl <| q_getf hB rfl <| i_push <| i_bin <| i_cmp ?_ ?_)
      · intro h''
        rw [hT'] at h''
        refine b_Q_there_27 hX _ _ _ _ _ (i_push <| i_end ?_)
        refine fin false _ _ ?_
        rw [fms, hcl, if_neg (fun q => key.mp h'' q.2.2)]
        rfl
      · intro h''
        rw [hT'] at h''
        refine b_Q_there_23 hX _ _ _ _ _ (i_push <| i_end ?_)
        refine fin true _ _ ?_
        rw [fms, hcl, if_pos ⟨h, hlt, Classical.byContradiction (fun q => h'' (key.mpr q))⟩]
        rfl
theorem sp_Q_deliver {k : Int32} (hB : QI B) (hN : N = 3 ∨ N = 5) (hR : Rel N s S none) (hI : Inv N n S) (hn : n < 2 ^ 30) (hT : gT S < 2 ^ 28) : CS l D cid m_Q_deliver [.ref (B 0), .int k] (hQ f B N s) (PR f B N (p_deliver N S k).1 (p_deliver N S k).2) := by
  intro X hX
  refine b_Q_deliver_0 hX _ _ _ _ _ (i_aload rfl <| i_iload rfl <| j_rdV (q_this hB) (sp_Q_there hB hR hT) rfl rfl <| i_ifb ?_ ?_)
  · intro hb
    refine b_Q_deliver_19 hX _ _ _ _ _ (i_push <| i_end ?_)
    refine b_Q_deliver_20 hX _ _ _ _ _ (i_iret ?_)
    have hnn : fms S k = none := by
      cases h : fms S k with
      | none => rfl
      | some kk => rw [h] at hb; cases hb
    have e : p_deliver N S k = (-1, S) := by rw [p_deliver, hnn]
    rw [e]
    exact ⟨rfl, s, rfl, hR⟩
  · intro hb
    obtain ⟨kk, hs⟩ := Option.isSome_iff_exists.mp hb
    obtain ⟨h1, h2, rfl⟩ := fms_s hs
    obtain ⟨m1, m2⟩ := hR.2.2.2.2.1 kk h1 h2
    have hmk : nI kk &&& 63 = nI (kk % 64) := pk_andN (by omega) 6 (by decide)
    refine b_Q_deliver_8 hX _ _ _ _ _ (i_aload rfl <| i_iload rfl <| i_push <| i_bin <| ?_)
    rw [hmk]
    refine j_callV (q_this hB) (sp_Q_receive hB hN (Nat.mod_lt _ (by decide)) hR m1 m2 hI (hI.2.1 kk h1) hn hT) rfl rfl ?_
    rintro w F' ⟨rfl, s9, rfl, h9⟩
    refine (i_end ?_)
    refine b_Q_deliver_20 hX _ _ _ _ _ (i_iret ?_)
    have e : p_deliver N S (nI kk) = g_recv N S (gM S kk) := by rw [p_deliver, hs]
    rw [e]
    exact ⟨rfl, s9, rfl, h9⟩
theorem sp_Q_next (hB : QI B) (hN : N = 3 ∨ N = 5) (hR : Rel N s S none) (hI : Inv N n S) (hn : n < 2 ^ 30) (hT : gT S < 2 ^ 28) : CS l D cid m_Q_next [.ref (B 0)] (hQ f B N s) (PR f B N (p_next N S).1 (p_next N S).2) := by
  intro X hX
  have hT' := hR.1
  have hL' := hR.2.1
  obtain ⟨lt, hl1, hl2⟩ := hI.2.2
  have hnx : ∃ kk : Nat, nxk S = nI kk ∧ gT S ≤ kk + 64 ∧ kk < 2 ^ 30 := by
    unfold nxk mx
    rw [hl2]
    by_cases h : nI lt < nI (gT S) - 64
    · rw [if_pos h]
      rw [Int32.lt_iff_toInt_lt, nI_toInt (by omega), nn_64, pk_sub_toInt (by omega) (by omega)] at h
      exact ⟨gT S - 64, by rw [nn_64, pk_sub (by omega)], by omega, by omega⟩
    · rw [if_neg h]
      refine ⟨lt, rfl, ?_, by omega⟩
      rw [Int32.lt_iff_toInt_lt, nI_toInt (by omega), nn_64, pk_sub_toInt (by omega) (by omega)] at h
      omega
  obtain ⟨kk, hk1, hk2, hk3⟩ := hnx
  have h32 : ∀ (x : Int32) (bc bs : Nat), x = nxk S → FR l D cid m_Q_next X 32 [some (.ref (B 0)), none] [.int x] (hQ f B N s) bc bs := by
    intro x bc bs hx
    subst hx
    refine b_Q_next_32 hX _ _ _ _ _ (i_istore <| i_iload rfl <| i_aload rfl <| q_getf hB rfl <| i_cmp ?_ ?_)
    · intro hlt
      rw [hT', hk1] at hlt
      have hlt' : kk < gT S := (nI_ltI (by omega) (by omega)).mp hlt
      have hs : fms S (nxk S) = some kk := by
        rw [fms, hk1, nI_clamp (by omega), if_pos ⟨nI_pos (by omega), hlt', hk2⟩]
      obtain ⟨m1, m2⟩ := hR.2.2.2.2.1 kk hlt' hk2
      have hmk : nxk S &&& 63 = nI (kk % 64) := by
        rw [hk1]
        exact pk_andN (by omega) 6 (by decide)
      have hL : Inv N n (g_lat S (nxk S)) := ⟨hI.1, hI.2.1, kk + 1, hlt', by show nxk S + 1 = _; rw [hk1, nI_succ]⟩
      have hR2 : Rel N (s.1, s.2.1, nxk S) (g_lat S (nxk S)) none := ⟨hR.1, rfl, hR.2.2.1, fun i hi => RepQ.cg (s := s) (s' := (s.1, s.2.1, nxk S)) (by omega) (fun _ _ _ => rfl) (hR.2.2.2.1 i hi), fun k h1 h2 => ⟨MsgQ.cg (s := s) (s' := (s.1, s.2.1, nxk S)) (by omega) (fun _ _ _ => rfl) (hR.2.2.2.2.1 k h1 h2).1, (hR.2.2.2.2.1 k h1 h2).2⟩, fun M q => by cases q⟩
      refine b_Q_next_43 hX _ _ _ _ _ (i_aload rfl <| i_iload rfl <| q_put29 hB <| i_aload rfl <| i_iload rfl <| i_push <| i_bin <| ?_)
      rw [hmk]
      refine j_callV (q_this hB) (sp_Q_receive (S := g_lat S (nxk S)) (M := gM S kk) hB hN (Nat.mod_lt kk (by decide)) hR2 (MsgQ.cg (s := s) (s' := (s.1, s.2.1, nxk S)) (by omega) (fun _ _ _ => rfl) m1) m2 hL (hI.2.1 kk hlt') hn hT) rfl rfl ?_
      rintro w F' ⟨rfl, s9, rfl, h9⟩
      refine (i_iret ?_)
      have e : p_next N S = g_recv N (g_lat S (nxk S)) (gM S kk) := by rw [p_next, hs]
      rw [e]
      exact ⟨rfl, s9, rfl, h9⟩
    · intro hlt
      rw [hT', hk1] at hlt
      have hge : ¬ kk < gT S := fun q => hlt (nI_lt q (by omega))
      have hs : fms S (nxk S) = none := by
        rw [fms, hk1, nI_clamp (by omega), if_neg (fun q => hge q.2.1)]
      refine b_Q_next_41 hX _ _ _ _ _ (i_push <| i_iret ?_)
      have e : p_next N S = (-1, S) := by rw [p_next, hs]
      rw [e]
      exact ⟨rfl, s, rfl, hR⟩
  refine b_Q_next_0 hX _ _ _ _ _ (i_aload rfl <| q_getf hB rfl <| i_push <| i_bin <| i_aload rfl <| q_getf hB rfl <| i_push <| i_bin <| i_cmp ?_ ?_)
  · intro h
    rw [hT', hL'] at h
    refine b_Q_next_26 hX _ _ _ _ _ (i_aload rfl <| q_getf hB rfl <| i_push <| i_bin <| i_end ?_)
    rw [hL']
    exact h32 _ _ _ (by rw [nxk, ← mx_le, if_pos h])
  · intro h
    rw [hT', hL'] at h
    refine b_Q_next_16 hX _ _ _ _ _ (i_aload rfl <| q_getf hB rfl <| i_push <| i_bin <| i_end ?_)
    rw [hT']
    exact h32 _ _ _ (by rw [nxk, ← mx_le, if_neg h])
end QSI
