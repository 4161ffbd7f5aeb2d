section SPN
variable {l : Launch} {D : va_G} {cid : Nat → ClassId} {Z : Nat → Prop} {f : HF} {A : Nat → Nat} {N i : Nat} {cs : Nat → PC} {S : GS} {R : RS}
theorem sp_deliver {k : Int32} (hE : En Z A N f) (hN : N = 3 ∨ N = 5) (hG : GRc Z f A N cs S) (hT : gT S < 2 ^ 28) (hV : VI N S) (hM : VM S) : CS l D cid m_G_deliver [.ref (A 0), .int k] (hC (5 + 5 * N) A f cs) (PH Z f A N (some (.int (p_deliver N S k).1)) (p_deliver N S k).2) := by
  intro X hX
  have hA := hE.1
  refine b_G_deliver_0 hX _ _ _ _ _ (i_aload rfl <| i_iload rfl <| ?_)
  refine j_callV (c_cell hA (by omega) hG.1) (sp_findMessage hE hG (Nat.lt_trans hT (by decide))) rfl rfl ?_
  rintro v F' ⟨rfl, ⟨hn, rfl⟩ | ⟨kk, q, hs, hlt, rfl, hm⟩⟩
  · refine (i_astore <| i_aload rfl <| i_null_n ?_)
    refine b_G_deliver_10 hX _ _ _ _ _ (i_push <| i_end ?_)
    refine b_G_deliver_19 hX _ _ _ _ _ (i_iret ?_)
    have e : p_deliver N S k = (-1, S) := by rw [p_deliver, hn]
    rw [e]
    exact ⟨rfl, f, cs, rfl, ext_r f, hG⟩
  · refine (i_astore <| i_aload rfl <| i_null_r ?_)
    refine b_G_deliver_14 hX _ _ _ _ _ (i_aload rfl <| i_aload rfl <| ?_)
    refine j_callV (c_cell hA (by omega) hG.1) (sp_receive hE hN hm hG hT hV (hM kk hlt)) rfl rfl ?_
    rintro v F' ⟨rfl, f2, c2, rfl, hx2, hg2⟩
    refine (i_end ?_)
    refine b_G_deliver_19 hX _ _ _ _ _ (i_iret ?_)
    have e : p_deliver N S k = g_recv N S (gM S kk) := by rw [p_deliver, hs]
    rw [e]
    exact ⟨rfl, f2, c2, rfl, hx2, hg2⟩
theorem sp_next (hE : En Z A N f) (hN : N = 3 ∨ N = 5) (hG : GRc Z f A N cs S) (hT : gT S < 2 ^ 28) (hV : VI N S) (hM : VM S) : CS l D cid m_G_next [.ref (A 0)] (hC (5 + 5 * N) A f cs) (PH Z f A N (some (.int (p_next N S).1)) (p_next N S).2) := by
  intro X hX
  have hA := hE.1
  refine b_G_next_0 hX _ _ _ _ _ (i_aload rfl <| i_getf (c_cell hA (by omega) hG.1) rfl <| i_push <| i_bin <| i_aload rfl <| i_getf (c_cell hA (by omega) hG.1) rfl <| i_push <| i_bin <| j_rdS (sp_max) rfl rfl <| i_istore <| i_aload rfl <| i_iload rfl <| ?_)
  refine j_callV (c_cell hA (by omega) hG.1) (sp_findMessage (k := nxk S) hE hG (Nat.lt_trans hT (by decide))) rfl rfl ?_
  rintro v F' ⟨rfl, ⟨hn, rfl⟩ | ⟨kk, q, hs, hlt, rfl, hm⟩⟩
  · refine (i_astore <| i_aload rfl <| i_null_n ?_)
    refine b_G_next_27 hX _ _ _ _ _ (i_push <| i_iret ?_)
    have e : p_next N S = (-1, S) := by rw [p_next, hn]
    rw [e]
    exact ⟨rfl, f, cs, rfl, ext_r f, hG⟩
  · refine (i_astore <| i_aload rfl <| i_null_r ?_)
    obtain ⟨h0, ⟨g1, e1, n1⟩, ⟨g2, e2, n2⟩, h3, h4, h5⟩ := id hG
    have hG1 : GRc Z f A N (va_up cs 0 (.inl (3, gobj A N (g_lat S (nxk S))))) (g_lat S (nxk S)) :=
      ⟨va_s _ _ _, ⟨g1, (va_n (by decide)).trans e1, n1⟩, ⟨g2, (va_n (by decide)).trans e2, n2⟩, h3.fm (va_n (by decide)), h4.fm (va_n (by decide)), fun j hj => (h5 j hj).fm (ext_r f) (fun k hk => va_n (by simp only [W5] at hk; omega))⟩
    refine b_G_next_29 hX _ _ _ _ _ (i_aload rfl <| i_iload rfl <| c_putI hA (by omega) h0 rfl <| i_aload rfl <| i_aload rfl <| ?_)
    refine j_callV (c_cell hA (by omega) hG1.1) (sp_receive (S := g_lat S (nxk S)) hE hN hm hG1 hT hV (hM kk hlt)) rfl rfl ?_
    rintro v F' ⟨rfl, f2, c2, rfl, hx2, hg2⟩
    refine (i_iret ?_)
    have e : p_next N S = g_recv N (g_lat S (nxk S)) (gM S kk) := by rw [p_next, hs]
    rw [e]
    exact ⟨rfl, f2, c2, rfl, hx2, hg2⟩
theorem sp_remind {x : Int32} (hE : En Z A N f) (hN : N = 3 ∨ N = 5) (hG : GRc Z f A N cs S) (hT : gT S < 2 ^ 29) : CS l D cid m_G_remind [.ref (A 0), .int x] (hC (5 + 5 * N) A f cs) (PH Z f A N (some (.int (p_remind N S x).1)) (p_remind N S x).2) := by
  intro X hX
  have hA := hE.1
  obtain ⟨h0, ⟨g1, e1, n1⟩, h2⟩ := id hG
  have h21 : ¬ (isR N x = true ∧ leads N (rp S x) x.toNatClampNeg) → ∀ bc bs, FR l D cid m_G_remind X 21 [some (.ref (A 0)), some (.int x)] [] (hC (5 + 5 * N) A f cs) bc bs := by
    intro hc bc bs
    refine b_G_remind_21 hX _ _ _ _ _ (i_push <| i_zret ?_)
    have e : p_remind N S x = (0, S) := by rw [p_remind, if_neg hc]
    rw [e]
    exact ⟨rfl, f, cs, rfl, ext_r f, hG⟩
  refine b_G_remind_0 hX _ _ _ _ _ (i_aload rfl <| i_iload rfl <| j_rdV (c_cell hA (by omega) h0) (sp_isReplica hA h0) rfl rfl <| i_ifb ?_ ?_)
  · intro hb
    exact h21 (fun q => by rw [hb] at q; exact absurd q.1 (by decide)) _ _
  · intro hb
    obtain ⟨i, hi, rfl⟩ := isR_t (by omega) hb
    have hcl : (nI i).toNatClampNeg = i := nI_clamp (by omega)
    obtain ⟨la, va, r1, r2⟩ := hG.2.2.2.2.2 i hi
    have h5' : 5 + 5 * i < 5 + 5 * N := by omega
    refine b_G_remind_8 hX _ _ _ _ _ (i_aload rfl <| i_aload rfl <| i_getf (c_cell hA (by omega) h0) rfl <| i_iload rfl <| i_aldq' (c_cell hA (by omega) e1) (⟨⟨rfl, hi, by omega⟩, congrArg va_rf (n1 i hi)⟩) <| j_rdV (c_cell hA (by omega) h0) (sp_leads hA hN (by omega) h0 r1) rfl rfl <| i_ifbn ?_ ?_)
    · intro hl
      refine b_G_remind_23 hX _ _ _ _ _ (i_aload rfl <| i_aload rfl <| i_getf (c_cell hA (by omega) h0) rfl <| i_iload rfl <| i_aldq' (c_cell hA (by omega) e1) (⟨⟨rfl, hi, by omega⟩, congrArg va_rf (n1 i hi)⟩) <| i_push <| ?_)
      refine j_callV (c_cell hA (by omega) h0) (sp_sendToAll (i := i) (kind := 1) hE hN hi hG hT) rfl rfl ?_
      rintro v F' ⟨rfl, f2, c2, rfl, hx2, hg2⟩
      refine (i_push <| i_zret ?_)
      have e : p_remind N S (nI i) = (1, g_all S i 1 N) := by
        rw [p_remind, rp, hcl, if_pos ⟨hb, of_decide_eq_true hl⟩]
      rw [e]
      exact ⟨rfl, f2, c2, rfl, hx2, hg2⟩
    · intro hl
      refine h21 (fun q => ?_) _ _
      rw [rp, hcl] at q
      exact of_decide_eq_false hl q.2
theorem sp_suspect {x : Int32} (hE : En Z A N f) (hN : N = 3 ∨ N = 5) (hG : GRc Z f A N cs S) (hT : gT S < 2 ^ 29) : CS l D cid m_G_suspect [.ref (A 0), .int x] (hC (5 + 5 * N) A f cs) (PH Z f A N (some (.int (p_suspect N S x).1)) (p_suspect N S x).2) := by
  intro X hX
  have hA := hE.1
  obtain ⟨h0, ⟨g1, e1, n1⟩, h2⟩ := id hG
  refine b_G_suspect_0 hX _ _ _ _ _ (i_aload rfl <| i_iload rfl <| j_rdV (c_cell hA (by omega) h0) (sp_isReplica hA h0) rfl rfl <| i_ifbn ?_ ?_)
  · intro hb
    obtain ⟨i, hi, rfl⟩ := isR_t (by omega) hb
    have hcl : (nI i).toNatClampNeg = i := nI_clamp (by omega)
    obtain ⟨la, va, r1, r2⟩ := hG.2.2.2.2.2 i hi
    have h5' : 5 + 5 * i < 5 + 5 * N := by omega
    have h34 : (rS (gR S i) = 0 ∨ rS (gR S i) = 1) → FR l D cid m_G_suspect X 34 [some (.ref (A 0)), some (.int (nI i)), some (.ref (A (5 + 5 * i)))] [] (hC (5 + 5 * N) A f cs) m_G_suspect.2.2.2.2.cells m_G_suspect.2.2.2.2.slots := by
      intro hs
      refine b_G_suspect_34 hX _ _ _ _ _ (i_aload rfl <| i_aload rfl <| i_aload rfl <| i_getf (c_cell hA h5' r1) rfl <| i_push <| i_bin <| ?_)
      refine j_callV (c_cell hA (by omega) h0) (sp_startChanging (i := i) (v := rV (gR S i) + 1) hE hN hi hG hT) rfl rfl ?_
      rintro v F' ⟨rfl, f2, c2, rfl, hx2, hg2⟩
      refine (i_push <| i_zret ?_)
      have e : p_suspect N S (nI i) = (1, g_start N S i (rV (gR S i) + 1)) := by
        rw [p_suspect, rp, hcl, if_pos ⟨hb, hs⟩]
      rw [e]
      exact ⟨rfl, f2, c2, rfl, hx2, hg2⟩
    refine b_G_suspect_10 hX _ _ _ _ _ (i_aload rfl <| i_getf (c_cell hA (by omega) h0) rfl <| i_iload rfl <| i_aldq' (c_cell hA (by omega) e1) (⟨⟨rfl, hi, by omega⟩, congrArg va_rf (n1 i hi)⟩) <| i_astore <| i_aload rfl <| i_getf (c_cell hA h5' r1) rfl <| i_if ?_ ?_)
    · intro hs
      exact h34 (Or.inl hs)
    · intro hs
      refine b_G_suspect_24 hX _ _ _ _ _ (i_aload rfl <| i_getf (c_cell hA h5' r1) rfl <| i_push <| i_cmp ?_ ?_)
      · intro hs'
        exact h34 (Or.inr hs')
      · intro hs'
        refine b_G_suspect_32 hX _ _ _ _ _ (i_push <| i_zret ?_)
        have e : p_suspect N S (nI i) = (0, S) := by
          rw [p_suspect, rp, hcl, if_neg (fun q => q.2.elim hs hs')]
        rw [e]
        exact ⟨rfl, f, cs, rfl, ext_r f, hG⟩
  · intro hb
    refine b_G_suspect_8 hX _ _ _ _ _ (i_push <| i_zret ?_)
    have e : p_suspect N S x = (0, S) := by
      rw [p_suspect, if_neg (fun q => by rw [hb] at q; exact absurd q.1 (by decide))]
    rw [e]
    exact ⟨rfl, f, cs, rfl, ext_r f, hG⟩
theorem sp_isLost {F : HF} {p la va : Nat} (hp : F p = some (.inl (2, robj A i la va R))) : CS l D cid m_G_isLost [.ref p] F (fun v f' => v = some (.int (bI (decide (rS R = 3 ∨ rS R = 2)))) ∧ f' = F) := by
  intro X hX
  have fin : ∀ (b : Bool) (bc bs : Nat), b = decide (rS R = 3 ∨ rS R = 2) → FR l D cid m_G_isLost X 21 [some (.ref p)] [.int (bI b)] F bc bs := by
    intro b bc bs hb
    refine b_G_isLost_21 hX _ _ _ _ _ (i_zret ?_)
    exact ⟨by rw [hb], rfl⟩
  refine b_G_isLost_0 hX _ _ _ _ _ (i_aload rfl <| i_getf hp rfl <| i_push <| i_cmp ?_ ?_)
  · intro h
    refine b_G_isLost_16 hX _ _ _ _ _ (i_push <| i_end ?_)
    exact fin true _ _ (decide_eq_true (Or.inl h)).symm
  · intro h
    refine b_G_isLost_8 hX _ _ _ _ _ (i_aload rfl <| i_getf hp rfl <| i_push <| i_cmp ?_ ?_)
    · intro h'
      refine b_G_isLost_20 hX _ _ _ _ _ (i_push <| i_end ?_)
      exact fin false _ _ (decide_eq_false (fun q => q.elim h h')).symm
    · intro h'
      refine b_G_isLost_16 hX _ _ _ _ _ (i_push <| i_end ?_)
      exact fin true _ _ (decide_eq_true (Or.inr (Classical.not_not.mp h'))).symm
theorem sp_othersLost (hE : En Z A N f) (hN : N = 3 ∨ N = 5) (hi : i < N) (hG : GRc Z f A N cs S) : CS l D cid m_G_othersLost [.ref (A 0), .ref (A (5 + 5 * i))] (hC (5 + 5 * N) A f cs) (fun v f' => v = some (.int (olo S i N)) ∧ f' = hC (5 + 5 * N) A f cs) := by
  intro X hX
  have hA := hE.1
  have h5' : 5 + 5 * i < 5 + 5 * N := by omega
  obtain ⟨h0, ⟨g1, e1, n1⟩, h2⟩ := id hG
  obtain ⟨la, va, r1, r2⟩ := hG.2.2.2.2.2 i hi
  have loop : ∀ t, t ≤ N → ∀ bc bs, FR l D cid m_G_othersLost X 4 [some (.ref (A 0)), some (.ref (A (5 + 5 * i))), some (.int (olo S i t)), some (.int (nI t))] [] (hC (5 + 5 * N) A f cs) bc bs := by
    refine up_to ?_ ?_
    · intro bc bs
      refine b_G_othersLost_4 hX _ _ _ _ _ (i_iload rfl <| i_aload rfl <| i_getf (c_cell hA (by omega) h0) rfl <| i_cmp_t (Int32.le_refl _) ?_)
      refine b_G_othersLost_41 hX _ _ _ _ _ (i_iload rfl <| i_iret ?_)
      exact ⟨rfl, rfl⟩
    · intro t ht ih bc bs
      simp only [nI_succ] at ih
      have h35 : ∀ x, x = olo S i (t + 1) → ∀ bc bs, FR l D cid m_G_othersLost X 35 [some (.ref (A 0)), some (.ref (A (5 + 5 * i))), some (.int x), some (.int (nI t))] [] (hC (5 + 5 * N) A f cs) bc bs := by
        intro x hx bc bs
        subst hx
        refine b_G_othersLost_35 hX _ _ _ _ _ (i_iinc rfl <| i_end ?_)
        exact ih _ _
      obtain ⟨la2, va2, p1, p2⟩ := hG.2.2.2.2.2 t ht
      refine b_G_othersLost_4 hX _ _ _ _ _ (i_iload rfl <| i_aload rfl <| i_getf (c_cell hA (by omega) h0) rfl <| i_cmp_f (nI_ge ht (by omega)) ?_)
      refine b_G_othersLost_12 hX _ _ _ _ _ (i_iload rfl <| i_aload rfl <| i_getf (c_cell hA h5' r1) rfl <| i_cmp ?_ ?_)
      · intro he
        have he' : t = i := (nI_eq (by omega) (by omega)).mp he
        refine h35 _ ?_ _ _
        rw [olo, if_neg (fun q => q.1 he')]
      · intro he
        have he' : ¬ t = i := fun q => he (congrArg nI q)
        refine b_G_othersLost_20 hX _ _ _ _ _ (i_aload rfl <| i_getf (c_cell hA (by omega) h0) rfl <| i_iload rfl <| i_aldq' (c_cell hA (by omega) e1) (⟨⟨rfl, ht, by omega⟩, congrArg va_rf (n1 t ht)⟩) <| j_rdS (sp_isLost (c_cell hA (by omega) p1)) rfl rfl <| i_ifb ?_ ?_)
        · intro hb
          refine h35 _ ?_ _ _
          rw [olo, if_neg (fun q => of_decide_eq_false hb q.2)]
        · intro hb
          refine b_G_othersLost_32 hX _ _ _ _ _ (i_iinc rfl <| i_end ?_)
          refine h35 _ ?_ _ _
          rw [olo, if_pos ⟨he', of_decide_eq_true hb⟩]
  refine b_G_othersLost_0 hX _ _ _ _ _ (i_push <| i_istore <| i_push <| i_istore <| i_end ?_)
  exact loop 0 (Nat.zero_le _) _ _
theorem sp_crash {x : Int32} (hE : En Z A N f) (hN : N = 3 ∨ N = 5) (hG : GRc Z f A N cs S) : CS l D cid m_G_crash [.ref (A 0), .int x] (hC (5 + 5 * N) A f cs) (PH Z f A N (some (.int (p_crash N S x).1)) (p_crash N S x).2) := by
  intro X hX
  have hA := hE.1
  obtain ⟨h0, ⟨g1, e1, n1⟩, h2⟩ := id hG
  refine b_G_crash_0 hX _ _ _ _ _ (i_aload rfl <| i_iload rfl <| j_rdV (c_cell hA (by omega) h0) (sp_isReplica hA h0) rfl rfl <| i_ifbn ?_ ?_)
  · intro hb
    obtain ⟨i, hi, rfl⟩ := isR_t (by omega) hb
    have hcl : (nI i).toNatClampNeg = i := nI_clamp (by omega)
    have hR := hG.2.2.2.2.2 i hi
    obtain ⟨la, va, r1, r2⟩ := id hR
    have h5' : 5 + 5 * i < 5 + 5 * N := by omega
    have h37 : ¬ (¬ rS (gR S i) = 3 ∧ olo S i N < nI (N / 2)) → ∀ bc bs, FR l D cid m_G_crash X 37 [some (.ref (A 0)), some (.int (nI i)), some (.ref (A (5 + 5 * i)))] [] (hC (5 + 5 * N) A f cs) bc bs := by
      intro hc bc bs
      refine b_G_crash_37 hX _ _ _ _ _ (i_push <| i_zret ?_)
      have e : p_crash N S (nI i) = (0, S) := by
        rw [p_crash, rp, hcl, if_neg (fun q => hc q.2)]
      rw [e]
      exact ⟨rfl, f, cs, rfl, ext_r f, hG⟩
    refine b_G_crash_10 hX _ _ _ _ _ (i_aload rfl <| i_getf (c_cell hA (by omega) h0) rfl <| i_iload rfl <| i_aldq' (c_cell hA (by omega) e1) (⟨⟨rfl, hi, by omega⟩, congrArg va_rf (n1 i hi)⟩) <| i_astore <| i_aload rfl <| i_getf (c_cell hA h5' r1) rfl <| i_push <| i_cmp ?_ ?_)
    · intro h3
      exact h37 (fun q => q.1 h3) _ _
    · intro h3
      refine b_G_crash_25 hX _ _ _ _ _ (i_aload rfl <| i_aload rfl <| j_rdV (c_cell hA (by omega) h0) (sp_othersLost hE hN hi hG) rfl rfl <| i_aload rfl <| i_getf (c_cell hA (by omega) h0) rfl <| i_cmp ?_ ?_)
      · intro hl
        refine b_G_crash_39 hX _ _ _ _ _ (i_aload rfl <| ?_)
        refine j_callV (c_cell hA h5' r1) (sp_forgetEverything hE (by omega) (by omega) hR) rfl rfl ?_
        rintro v F' ⟨rfl, f1, c1, la1, va1, rfl, x1, s1, e5, hR1, hq1, hq2, hq3⟩
        obtain ⟨la2, va2, p1, p2, p3, p4, p5, p6, p7, p8, p9⟩ := id hR1
        refine (i_aload rfl <| i_push <| c_putI hA h5' p1 rfl <| i_push <| i_zret ?_)
        have hR2 := RepC.set (R' := (3, (r_fresh (gR S i)).2)) (ext_r f1) hR1 (by omega) p2 p3 rfl rfl rfl rfl p8
        have e : p_crash N S (nI i) = (1, g_rep S i (3, (r_fresh (gR S i)).2)) := by
          rw [p_crash, rp, hcl, if_pos ⟨hb, h3, hl⟩]
        rw [e]
        exact ⟨rfl, f1, _, rfl, x1, hG.rep (by omega) hi x1 (fun k hk => (va_n (fun e => hk (Or.inl e))).trans (s1 k hk)) hR2⟩
      · intro hl
        exact h37 (fun q => hl q.2) _ _
  · intro hb
    refine b_G_crash_8 hX _ _ _ _ _ (i_push <| i_zret ?_)
    have e : p_crash N S x = (0, S) := by
      rw [p_crash, if_neg (fun q => by rw [hb] at q; exact absurd q.1 (by decide))]
    rw [e]
    exact ⟨rfl, f, cs, rfl, ext_r f, hG⟩
end SPN
