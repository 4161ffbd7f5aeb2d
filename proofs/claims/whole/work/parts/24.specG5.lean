section SPK
variable {l : Launch} {D : va_G} {cid : Nat → ClassId} {Z : Nat → Prop} {f : HF} {A : Nat → Nat} {N i : Nat} {cs : Nat → PC} {S : GS}
theorem sp_takeOk {ma : Nat} {m : Msg} (hE : En Z A N f) (hN : N = 3 ∨ N = 5) (hi : i < N) (hm : MsgR Z f N ma m) (hG : GRc Z f A N cs S) :
    CS l D cid m_G_takeOk [.ref (A 0), .ref (A (5 + 5 * i)), .ref ma] (hC (5 + 5 * N) A f cs) (PH Z f A N none (g_ok N S i m)) := by
  intro X hX
  have hA := hE.1
  have h5' : 5 + 5 * i < 5 + 5 * N := by omega
  have h10 : 6 + 5 * i < 5 + 5 * N := by omega
  have hR := hG.2.2.2.2.2 i hi
  obtain ⟨la, va, r1, r2, r3, r4, r5, r6, r7, r8, r9⟩ := id hR
  obtain ⟨ga, a1, a2⟩ := id r4
  obtain ⟨mz, mva, mla, m1, m2, m3, m4, m5, m6⟩ := id hm
  have hmc := hE.im (cs := cs) _ _ mz m1
  obtain ⟨mb, hmb⟩ := m3.cell
  obtain ⟨lb, hlb⟩ := r2.cell
  have hlen := r2.len
  have hmlen := m3.len
  have h19 : ¬ leads N (gR S i) i ∨ ¬ mV m = rV (gR S i) → ∀ x3 x4 x5 bc bs, FR l D cid m_G_takeOk X 19 [some (.ref (A 0)), some (.ref (A (5 + 5 * i))), some (.ref ma), x3, x4, x5] [] (hC (5 + 5 * N) A f cs) bc bs := by
    intro hc x3 x4 x5 bc bs
    refine b_G_takeOk_19 hX _ _ _ _ _ (i_ret ?_)
    refine ⟨rfl, f, cs, rfl, ext_r f, ?_⟩
    rw [g_ok, if_pos hc]
    exact hG
  refine b_G_takeOk_0 hX _ _ _ _ _ (i_aload rfl <| i_aload rfl <| j_rdV (c_cell hA (by omega) hG.1) (sp_leads hA hN (by omega) hG.1 r1) rfl rfl <| i_ifb ?_ ?_)
  · intro hl
    exact h19 (Or.inl (of_decide_eq_false hl)) _ _ _ _ _
  · intro hl
    refine b_G_takeOk_8 hX _ _ _ _ _ (i_aload rfl <| i_getf hmc rfl <| i_aload rfl <| i_getf (c_cell hA h5' r1) rfl <| i_cmp ?_ ?_)
    · intro hv
      have hc : ¬ (¬ leads N (gR S i) i ∨ ¬ mV m = rV (gR S i)) := fun q => q.elim (fun z => z (of_decide_eq_true hl)) (fun z => z hv)
      have ba : ∀ t, t < N → b24 (rA (r_ack (gR S i) m) t) := by
        intro t ht
        show b24 (va_up (rA (gR S i)) (mS m) (mx (rA (gR S i) (mS m)) (nI (mG m).length)) t)
        by_cases e : t = mS m
        · rw [e, va_s]
          exact b24_mx (r9 _ m4) ⟨_, hmlen, rfl⟩
        · rw [va_n e]
          exact r9 t ht
      have hga : ∀ t, t < N → upd ga (mS m) (mx (ga (mS m)) (nI (mG m).length)) t = rA (r_ack (gR S i) m) t := by
        intro t ht
        show _ = va_up (rA (gR S i)) (mS m) (mx (rA (gR S i) (mS m)) (nI (mG m).length)) t
        by_cases e : t = mS m
        · rw [e, va_s, upd_s, a2 _ m4]
        · rw [va_n e, upd_n e]
          exact a2 t ht
      have bc : b24 (akb (rA (r_ack (gR S i) m)) N (nI (N / 2)) (rC (gR S i)) N) := b24_akb r8 ba N (Nat.le_refl _)
      have hR1 : RepC Z f A N (va_up cs (6 + 5 * i) (.inr (.inl (0, N, upd ga (mS m) (mx (ga (mS m)) (nI (mG m).length)))))) i (r_ack (gR S i) m) :=
        ⟨la, va, (va_n (by omega)).trans r1, r2, r3, ⟨_, va_s _ _ _, hga⟩, r5.fm (ext_r f) (va_n (by omega)), r6.fm (ext_r f) (va_n (by omega)), r7.fm (ext_r f) (va_n (by omega)), r8, ba⟩
      have hs1 : ∀ k, ¬ W5 i k → va_up cs (6 + 5 * i) (.inr (.inl (0, N, upd ga (mS m) (mx (ga (mS m)) (nI (mG m).length))))) k = cs k := fun k hk => va_n (fun e => hk (Or.inr (Or.inl e)))
      have hG1 := hG.rep (by omega) hi (ext_r f) hs1 hR1
      have hr1 : va_up cs (6 + 5 * i) (.inr (.inl (0, N, upd ga (mS m) (mx (ga (mS m)) (nI (mG m).length))))) (5 + 5 * i) = .inl (2, robj A i la va (gR S i)) := (va_n (by omega)).trans r1
      have hR2 := RepC.set (R' := r_com (r_ack (gR S i) m) (akb (rA (r_ack (gR S i) m)) N (nI (N / 2)) (rC (gR S i)) N)) (ext_r f) hR1 (by omega) r2 r3 rfl rfl rfl rfl bc
      have hG2 := hG1.rep (by omega) hi (ext_r f) (fun k hk => va_n (fun e => hk (Or.inl e))) hR2
      rw [g_rep_rep] at hG2
      obtain ⟨c0, hc0, ec0⟩ := r8
      obtain ⟨L0, hL0, eL0⟩ := b24_mn bc ⟨_, hlen, rfl⟩
      have loop : ∀ (n c : Nat) (c1 : Nat → PC) (S1 : GS) (x3 : Option Value), n = L0 + 1 - c → c ≤ 30 → GRc Z f A N c1 S1 → c1 (5 + 5 * i) = .inl (2, robj A i la va (r_com (r_ack (gR S i) m) (akb (rA (r_ack (gR S i) m)) N (nI (N / 2)) (rC (gR S i)) N))) → g_anss (rG (gR S i)) n (nI c) S1 = g_ok N S i m → ∀ bc bs, FR l D cid m_G_takeOk X 86 [some (.ref (A 0)), some (.ref (A (5 + 5 * i))), some (.ref ma), x3, some (.int (nI L0)), some (.int (nI c))] [] (hC (5 + 5 * N) A f c1) bc bs := by
        intro n
        induction n with
        | zero =>
          intro c c1 S1 x3 hn hc30 hg ho he bc bs
          refine b_G_takeOk_86 hX _ _ _ _ _ (i_iload rfl <| i_iload rfl <| i_cmp_t (nI_lt (by omega) (by omega)) ?_)
          refine b_G_takeOk_112 hX _ _ _ _ _ (i_ret ?_)
          refine ⟨rfl, f, c1, rfl, ext_r f, ?_⟩
          rw [← he]
          exact hg
        | succ n ih =>
          intro c c1 S1 x3 hn hc30 hg ho he bc bs
          refine b_G_takeOk_86 hX _ _ _ _ _ (i_iload rfl <| i_iload rfl <| i_cmp_f (nI_nlt (by omega) (by omega)) ?_)
          refine b_G_takeOk_93 hX _ _ _ _ _ (i_aload rfl <| i_aload rfl <| i_getf (c_cell hA h5' ho) rfl <| i_iload rfl <| ?_)
          refine j_callV (hE.im _ _ r2.nz hlb) (sp_firstEntries (Z := Z) (c := nI c) hE.im r2) rfl rfl ?_
          rintro v F' ⟨rfl, b, rfl, hb'⟩
          refine (?_)
          refine j_callV (c_cell hA (by omega) hg.1) (sp_answerClient hE hg hb') rfl rfl ?_
          rintro v F' ⟨rfl, c2, rfl, s2, hg2⟩
          refine (i_iinc rfl <| i_end ?_)
          have h := ih (c + 1) c2 _ x3 (by omega) (by omega) hg2 ((s2 _ (by omega) (by omega)).trans ho) (by rw [← he, g_anss, nI_succ]) bc bs
          rw [nI_succ] at h
          exact h
      refine b_G_takeOk_20 hX _ _ _ _ _ (i_aload rfl <| i_getf (c_cell hA h5' r1) rfl <| i_aload rfl <| i_getf hmc rfl <| i_aload rfl <| i_getf (c_cell hA h5' r1) rfl <| i_aload rfl <| i_getf hmc rfl <| i_ald (c_cell hA h10 a1) ⟨rfl, m4, by omega⟩ <| i_aload rfl <| i_getf hmc rfl <| i_getf (hE.im _ _ m3.nz hmb) rfl <| j_rdS (sp_max) rfl rfl <| c_ast hA h10 a1 ⟨rfl, m4, by omega⟩ <| i_aload rfl <| i_getf (c_cell hA h5' hr1) rfl <| i_istore <| i_aload rfl <| i_aload rfl <| i_aload rfl <| i_getf (c_cell hA (by omega) hG1.1) rfl <| j_rdV (c_cell hA h5' hr1) (sp_ackedBy (R := gR S i) hA (by omega) (by omega) hr1 (va_s _ _ _) hga) rfl rfl <| c_putI hA h5' hr1 rfl <| i_aload rfl <| i_getf (c_cell hA h5' (va_s _ _ _)) rfl <| i_aload rfl <| i_getf (c_cell hA h5' (va_s _ _ _)) rfl <| i_getf (hE.im _ _ r2.nz hlb) rfl <| j_rdS (sp_min) rfl rfl <| i_istore <| i_iload rfl <| i_push <| i_bin <| i_istore <| i_end ?_)
      have h := loop (L0 + 1 - (c0 + 1)) (c0 + 1) _ _ (some (.int (rC (gR S i)))) rfl (by omega) hG2 (va_s _ _ _) ?_
      · rw [nI_succ, ← ec0, ← eL0] at h
        exact h _ _
      · rw [g_ok, if_neg hc, eL0, ec0, nI_toInt (by omega), nI_toInt (by omega), nI_succ]
        congr 1
        omega
    · intro hv
      exact h19 (Or.inr hv) _ _ _ _ _
theorem sp_findMessage {k : Int32} (hE : En Z A N f) (hG : GRc Z f A N cs S) (hT : gT S < 2 ^ 30) :
    CS l D cid m_G_findMessage [.ref (A 0), .int k] (hC (5 + 5 * N) A f cs) (fun v F' => F' = hC (5 + 5 * N) A f cs ∧ ((fms S k = none ∧ v = some .null) ∨ ∃ kk q, fms S k = some kk ∧ kk < gT S ∧ v = some (.ref q) ∧ MsgR Z f N q (gM S kk))) := by
  intro X hX
  have hA := hE.1
  obtain ⟨h0, h1, ⟨g2, e2, n2⟩, h3⟩ := id hG
  have h27 : fms S k = none → ∀ x2 bc bs, FR l D cid m_G_findMessage X 27 [some (.ref (A 0)), some (.int k), x2] [] (hC (5 + 5 * N) A f cs) bc bs := by
    intro hn x2 bc bs
    refine b_G_findMessage_27 hX _ _ _ _ _ (i_push <| i_end ?_)
    refine b_G_findMessage_28 hX _ _ _ _ _ (i_istore <| i_iload rfl <| i_if_t rfl ?_)
    refine b_G_findMessage_45 hX _ _ _ _ _ (i_push <| i_end ?_)
    refine b_G_findMessage_46 hX _ _ _ _ _ (i_aret ?_)
    exact ⟨rfl, Or.inl ⟨hn, rfl⟩⟩
  refine b_G_findMessage_0 hX _ _ _ _ _ (i_iload rfl <| i_if ?_ ?_)
  · intro h
    exact h27 (if_neg (fun q => q.1 h)) _ _ _
  · intro h
    obtain ⟨kk, hkk, rfl⟩ := nI_of h
    have hcl := nI_clamp hkk
    refine b_G_findMessage_4 hX _ _ _ _ _ (i_iload rfl <| i_aload rfl <| i_getf (c_cell hA (by omega) h0) rfl <| i_cmp ?_ ?_)
    · intro h'
      refine h27 (if_neg (fun q => ?_)) _ _ _
      rw [hcl] at q
      exact nI_ge q.2.1 (by omega) h'
    · intro h'
      have hlt : kk < gT S := by
        rcases Nat.lt_or_ge kk (gT S) with h2 | h2
        · exact h2
        · exact absurd (nI_le h2 hkk) h'
      refine b_G_findMessage_12 hX _ _ _ _ _ (i_aload rfl <| i_getf (c_cell hA (by omega) h0) rfl <| i_iload rfl <| i_bin <| i_push <| i_cmp ?_ ?_)
      · intro h''
        rw [pk_sub (by omega)] at h''
        refine h27 (if_neg (fun q => ?_)) _ _ _
        rw [hcl] at q
        exact nI_nlt (a := 64) (b := gT S - kk) (by omega) (by omega) h''
      · intro h''
        rw [pk_sub (by omega)] at h''
        have hle : gT S ≤ kk + 64 := by
          rcases Nat.lt_or_ge 64 (gT S - kk) with h2 | h2
          · exact absurd (nI_lt h2 (by omega)) h''
          · omega
        obtain ⟨q, hq, hm⟩ := n2 kk hlt hle
        refine b_G_findMessage_23 hX _ _ _ _ _ (i_push <| i_end ?_)
        refine b_G_findMessage_28 hX _ _ _ _ _ (i_istore <| i_iload rfl <| i_if_f (by decide) ?_)
        refine b_G_findMessage_33 hX _ _ _ _ _ (i_aload rfl <| i_getf (c_cell hA (by omega) h0) rfl <| i_iload rfl <| i_push <| i_binz (by decide) <| i_aldq' (c_cell hA (by omega) e2) (⟨⟨pk_rem (d := 64) hkk (by decide) (by decide), Nat.mod_lt _ (by decide), Nat.lt_trans (Nat.mod_lt _ (by decide)) (by decide)⟩, congrArg va_rf hq⟩) <| i_end ?_)
        refine b_G_findMessage_46 hX _ _ _ _ _ (i_aret ?_)
        refine ⟨rfl, Or.inr ⟨kk, q, ?_, hlt, rfl, hm⟩⟩
        rw [fms, hcl, if_pos ⟨h, hlt, hle⟩]
end SPK
