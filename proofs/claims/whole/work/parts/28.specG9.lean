section SPO
variable {l : Launch} {D : va_G} {cid : Nat → ClassId} {Z : Nat → Prop} {f : HF} {A : Nat → Nat} {N i : Nat} {cs : Nat → PC} {S : GS} {R : RS}
theorem hC_im {K : Nat} {q : Nat} (h : ¬ isA K A q) (c : PC) : hup (hC K A f cs) q c = hC K A (hup f q c) cs := by
  funext a
  by_cases e : a = q
  · subst e
    rw [hup_s, hC_no h, hup_s]
  · rw [hup_n e]
    by_cases ha : isA K A a
    · simp only [hC, dif_pos ha]
    · rw [hC_no ha, hC_no ha, hup_n e]
theorem kep_no {f' : HF} {cs' : Nat → PC} {k : Nat} (h : KepC Z f cs N k noK) (hk : cs' k = cs k) : KepC Z f' cs' N k noK := by
  obtain ⟨g, h1, h2⟩ := h
  refine ⟨g, hk.trans h1, fun t ht => ?_⟩
  have h3 := h2 t ht
  cases hg : g t with
  | none => exact trivial
  | some q => rw [hg] at h3; exact h3.elim
theorem sp_recover {x n : Int32} (hE : En Z A N f) (hN : N = 3 ∨ N = 5) (hG : GRc Z f A N cs S) (hT : gT S < 2 ^ 29) : CS l D cid m_G_recover [.ref (A 0), .int x, .int n] (hC (5 + 5 * N) A f cs) (PH Z f A N (some (.int (p_recover N S x n).1)) (p_recover N S x n).2) := by
  intro X hX
  have hA := hE.1
  obtain ⟨h0, ⟨g1, e1, n1⟩, h2⟩ := id hG
  refine b_G_recover_0 hX _ _ _ _ _ (i_aload rfl <| i_iload rfl <| j_rdV (c_cell hA (by omega) h0) (sp_isReplica hA h0) rfl rfl <| i_ifbn ?_ ?_)
  · intro hb
    obtain ⟨i, hi, rfl⟩ := isR_t (by omega) hb
    have hcl : (nI i).toNatClampNeg = i := nI_clamp (by omega)
    have hR := hG.2.2.2.2.2 i hi
    obtain ⟨la, va, r1, r2, r3, r4, r5, r6, r7, r8, r9⟩ := id hR
    have h5' : 5 + 5 * i < 5 + 5 * N := by omega
    have h32 : ¬ ((rS (gR S i) = 3 ∨ rS (gR S i) = 2) ∧ rN (gR S i) < n) → ∀ bc bs, FR l D cid m_G_recover X 32 [some (.ref (A 0)), some (.int (nI i)), some (.int n), some (.ref (A (5 + 5 * i)))] [] (hC (5 + 5 * N) A f cs) bc bs := by
      intro hc bc bs
      refine b_G_recover_32 hX _ _ _ _ _ (i_push <| i_zret ?_)
      have e : p_recover N S (nI i) n = (0, S) := by
        rw [p_recover, rp, hcl, if_neg (fun q => hc q.2)]
      rw [e]
      exact ⟨rfl, f, cs, rfl, ext_r f, hG⟩
    refine b_G_recover_10 hX _ _ _ _ _ (i_aload rfl <| i_getf (c_cell hA (by omega) h0) rfl <| i_iload rfl <| i_aldq' (c_cell hA (by omega) e1) (⟨⟨rfl, hi, by omega⟩, congrArg va_rf (n1 i hi)⟩) <| i_astore <| i_aload rfl <| j_rdS (sp_isLost (c_cell hA h5' r1)) rfl rfl <| i_ifb ?_ ?_)
    · intro hl
      exact h32 (fun q => of_decide_eq_false hl q.1) _ _
    · intro hl
      refine b_G_recover_24 hX _ _ _ _ _ (i_iload rfl <| i_aload rfl <| i_getf (c_cell hA h5' r1) rfl <| i_cmp ?_ ?_)
      · intro hn
        refine b_G_recover_34 hX _ _ _ _ _ (i_aload rfl <| i_iload rfl <| c_putI hA h5' r1 rfl <| i_aload rfl <| ?_)
        have hR0 := RepC.set (R' := (rS (gR S i), rV (gR S i), rL (gR S i), rG (gR S i), rC (gR S i), rX (gR S i), rA (gR S i), rP (gR S i), rO (gR S i), rE (gR S i), rR (gR S i), n)) (ext_r f) hR (by omega) r2 r3 rfl rfl rfl rfl r8
        refine j_callV (c_cell hA h5' (va_s _ _ _)) (sp_forgetEverything hE (by omega) (by omega) hR0) rfl rfl ?_
        rintro v F' ⟨rfl, f1, c1, la1, va1, rfl, x1, s1, e5, hR1, ⟨gv, hv1, hv2⟩, hq2, hq3⟩
        obtain ⟨la2, va2, p1, p2, ⟨vz, gv', p3, p3'⟩, p4, p5, p6, p7, p8, p9⟩ := id hR1
        have hh := p1.symm.trans e5
        simp only [Sum.inl.injEq, Prod.mk.injEq, List.cons.injEq, Value.ref.injEq, true_and, and_true] at hh
        obtain ⟨rfl, rfl⟩ := hh
        have hE1 := hE.ext x1
        have hvA : ¬ isA (5 + 5 * N) A va2 := fun q => vz (hE.2.1 _ q)
        refine (i_aload rfl <| i_push <| c_putI hA h5' p1 rfl <| i_aload rfl <| i_getf (c_cell hA h5' (va_s _ _ _)) rfl <| i_aload rfl <| i_getf (c_cell hA h5' (va_s _ _ _)) rfl <| i_iload rfl <| i_ast (hE1.im _ _ vz p3) ⟨rfl, hi, by omega⟩ <| i_aload rfl <| i_aload rfl <| i_push <| ?_)
        rw [hC_im hvA]
        have hx2 : Ext f (hup f1 va2 (.inr (.inl (0, N, upd gv' i n)))) := fun a c h => (hup_n (ne_of h hq2)).trans (x1 a c h)
        have hR2 : RepC Z (hup f1 va2 (.inr (.inl (0, N, upd gv' i n)))) A N (va_up c1 (5 + 5 * i) (.inl (2, robj A i la2 va2 (r_recov (gR S i) i n)))) i (r_recov (gR S i) i n) := by
          refine ⟨la2, va2, va_s _ _ _, ⟨p2.1, (hup_n hq3).trans p2.2⟩, ⟨vz, _, hup_s _ _ _, fun t ht => ?_⟩, p4.fm (va_n (by omega)), kep_no p5 (va_n (by omega)), kep_no p6 (va_n (by omega)), kep_no p7 (va_n (by omega)), b24_0, fun _ _ => b24_0⟩
          show upd gv' i n t = va_up (fun _ => 0) i n t
          by_cases e : t = i
          · rw [e, upd_s, va_s]
          · rw [upd_n e, va_n e]
            exact p3' t ht
        have hG2 := hG.rep (by omega) hi hx2 (fun k hk => (va_n (fun e => hk (Or.inl e))).trans ((s1 k hk).trans (va_n (fun e => hk (Or.inl e))))) hR2
        refine j_callV (c_cell hA (by omega) hG2.1) (sp_sendToAll (i := i) (kind := 7) (hE.ext hx2) hN hi hG2 hT) rfl rfl ?_
        rintro v F' ⟨rfl, f3, c3, rfl, x3, hg3⟩
        refine (i_push <| i_zret ?_)
        have e : p_recover N S (nI i) n = (1, g_all (g_rep S i (r_recov (gR S i) i n)) i 7 N) := by
          rw [p_recover, rp, hcl, if_pos ⟨hb, of_decide_eq_true hl, hn⟩]
        rw [e]
        exact ⟨rfl, f3, c3, rfl, hx2.trans x3, hg3⟩
      · intro hn
        exact h32 (fun q => hn q.2) _ _
  · intro hb
    refine b_G_recover_8 hX _ _ _ _ _ (i_push <| i_zret ?_)
    have e : p_recover N S x n = (0, S) := by
      rw [p_recover, if_neg (fun q => by rw [hb] at q; exact absurd q.1 (by decide))]
    rw [e]
    exact ⟨rfl, f, cs, rfl, ext_r f, hG⟩
theorem sp_repeatAnswer {la va lb : Nat} {es : List Ent} (hE : En Z A N f) (hi : i < N) (hN : N ≤ 5) (hG : GRc Z f A N cs S) (hl : LogR Z f es lb) : CS l D cid m_G_repeatAnswer [.ref (A 0), .ref (A (5 + 5 * i)), .ref lb] (hC (5 + 5 * N) A f cs) (PH Z f A N (some (.int (if nI es.length ≤ rC (gR S i) then 1 else 2))) (if nI es.length ≤ rC (gR S i) then g_ans S es else S)) := by
  intro X hX
  have hA := hE.1
  obtain ⟨la, va, r1, r2⟩ := hG.2.2.2.2.2 i hi
  have h5' : 5 + 5 * i < 5 + 5 * N := by omega
  obtain ⟨b, hb⟩ := hl.cell
  have hlc := hE.im (cs := cs) _ _ hl.nz hb
  refine b_G_repeatAnswer_0 hX _ _ _ _ _ (i_aload rfl <| i_getf hlc rfl <| i_aload rfl <| i_getf (c_cell hA h5' r1) rfl <| i_cmp ?_ ?_)
  · intro h
    refine b_G_repeatAnswer_13 hX _ _ _ _ _ (i_aload rfl <| i_aload rfl <| ?_)
    refine j_callV (c_cell hA (by omega) hG.1) (sp_answerClient hE hG hl) rfl rfl ?_
    rintro v F' ⟨rfl, c2, rfl, s2, hg2⟩
    refine (i_push <| i_iret ?_)
    rw [if_pos h, if_pos h]
    exact ⟨rfl, f, c2, rfl, ext_r f, hg2⟩
  · intro h
    refine b_G_repeatAnswer_11 hX _ _ _ _ _ (i_push <| i_iret ?_)
    rw [if_neg h, if_neg h]
    exact ⟨rfl, f, cs, rfl, ext_r f, hG⟩
theorem sp_request {x c n v : Int32} (hE : En Z A N f) (hN : N = 3 ∨ N = 5) (hG : GRc Z f A N cs S) (hT : gT S < 2 ^ 29) : CS l D cid m_G_request [.ref (A 0), .int x, .int c, .int n, .int v] (hC (5 + 5 * N) A f cs) (PH Z f A N (some (.int (p_request N S x c n v).1)) (p_request N S x c n v).2) := by
  intro X hX
  have hA := hE.1
  obtain ⟨h0, ⟨g1, e1, n1⟩, h2⟩ := id hG
  have h20 : ¬ (isR N x = true ∧ isCl c = true ∧ 1 ≤ n) → ∀ x5 x6 bc bs, FR l D cid m_G_request X 20 [some (.ref (A 0)), some (.int x), some (.int c), some (.int n), some (.int v), x5, x6] [] (hC (5 + 5 * N) A f cs) bc bs := by
    intro hc x5 x6 bc bs
    refine b_G_request_20 hX _ _ _ _ _ (i_push <| i_iret ?_)
    have e : p_request N S x c n v = (-1, S) := by rw [p_request, if_pos hc]
    rw [e]
    exact ⟨rfl, f, cs, rfl, ext_r f, hG⟩
  refine b_G_request_0 hX _ _ _ _ _ (i_aload rfl <| i_iload rfl <| j_rdV (c_cell hA (by omega) h0) (sp_isReplica hA h0) rfl rfl <| i_ifb ?_ ?_)
  · intro hb
    exact h20 (fun q => by rw [hb] at q; exact absurd q.1 (by decide)) _ _ _ _
  · intro hb
    refine b_G_request_8 hX _ _ _ _ _ (i_iload rfl <| j_rdS (sp_isClient) rfl rfl <| i_ifb ?_ ?_)
    · intro hb'
      exact h20 (fun q => by rw [hb'] at q; exact absurd q.2.1 (by decide)) _ _ _ _
    · intro hb'
      refine b_G_request_15 hX _ _ _ _ _ (i_iload rfl <| i_push <| i_cmp ?_ ?_)
      · intro hn
        have hc : ¬ ¬ (isR N x = true ∧ isCl c = true ∧ 1 ≤ n) := fun q => q ⟨hb, hb', hn⟩
        obtain ⟨i, hi, rfl⟩ := isR_t (by omega) hb
        obtain ⟨cc, hcc, rfl⟩ := isCl_t hb'
        have hcl : (nI i).toNatClampNeg = i := nI_clamp (by omega)
        have hR := hG.2.2.2.2.2 i hi
        obtain ⟨la, va, r1, r2, r3, r4, r5, r6, r7, r8, r9⟩ := id hR
        have h5' : 5 + 5 * i < 5 + 5 * N := by omega
        obtain ⟨lb, hlb⟩ := r2.cell
        have hlc := hE.im (cs := cs) _ _ r2.nz hlb
        have hlen := r2.len
        refine b_G_request_22 hX _ _ _ _ _ (i_aload rfl <| i_getf (c_cell hA (by omega) h0) rfl <| i_iload rfl <| i_aldq' (c_cell hA (by omega) e1) (⟨⟨rfl, hi, by omega⟩, congrArg va_rf (n1 i hi)⟩) <| i_astore <| i_aload rfl <| i_aload rfl <| j_rdV (c_cell hA (by omega) h0) (sp_leads hA hN (by omega) h0 r1) rfl rfl <| i_ifbn ?_ ?_)
        · intro hl
          have hl' : ¬ ¬ leads N (gR S i) i := fun q => q (of_decide_eq_true hl)
          refine b_G_request_42 hX _ _ _ _ _ (i_aload rfl <| i_getf (c_cell hA h5' r1) rfl <| i_iload rfl <| j_rdV hlc (sp_greatestNumber (Z := Z) hE.im r2) rfl rfl <| i_iload rfl <| i_cmp ?_ ?_)
          · intro hg
            have hg' : ¬ n < gno (rG (gR S i)) (nI cc) 0 := Int32.not_lt.mpr hg
            refine b_G_request_58 hX _ _ _ _ _ (i_aload rfl <| i_getf (c_cell hA h5' r1) rfl <| i_iload rfl <| i_iload rfl <| ?_)
            refine j_callV hlc (sp_find (Z := Z) hE.im r2) rfl rfl ?_
            rintro w F' ⟨rfl, ⟨hnone, rfl⟩ | ⟨es, b, hsome, rfl, hle⟩⟩
            · refine (i_astore <| i_aload rfl <| i_null_n ?_)
              refine b_G_request_84 hX _ _ _ _ _ (i_aload rfl <| i_getf (c_cell hA h5' r1) rfl <| i_getf hlc rfl <| i_push <| i_cmp ?_ ?_)
              · intro hsz
                have hsz' : (rG (gR S i)).length < 24 := by
                  rcases Nat.lt_or_ge (rG (gR S i)).length 24 with h9 | h9
                  · exact h9
                  · exact absurd hsz (nI_nlt h9 (by omega))
                refine b_G_request_100 hX _ _ _ _ _ (i_aload rfl <| i_new ⟨by decide, by decide⟩ fun q1 hq1 => i_dup <| i_aload rfl <| ?_)
                have hqA := (hC_none hq1).1
                obtain ⟨qz, qn⟩ := hE.no hq1
                have nr : A (5 + 5 * i) ≠ q1 := ne_of (c_cell hA h5' r1) hq1
                refine (i_getf ((hup_n nr).trans (c_cell hA h5' r1)) rfl <| i_iload rfl <| i_iload rfl <| i_iload rfl <| ?_)
                refine j_upI (sp_L_init2 (Z := Z) (es := rG (gR S i)) (hup_s _ _ _) (ne_of hlc hq1) (r2.fm (fun a c hz h => (hup_n (ne_of (hE.im (cs := cs) _ _ hz h) hq1)).trans (hE.im _ _ hz h)))) rfl rfl ?_
                rw [hup_hup, hC_new hq1]
                have hx1 := Ext.new (c := .inl (0, [.ref la, .int (nI ((rG (gR S i)).length + 1)), .int (nI cc), .int n, .int v, .int (tot ((nI cc, n, v) :: rG (gR S i)))])) qn
                have hl2 : LogR Z (hup f q1 (.inl (0, [.ref la, .int (nI ((rG (gR S i)).length + 1)), .int (nI cc), .int n, .int v, .int (tot ((nI cc, n, v) :: rG (gR S i)))]))) ((nI cc, n, v) :: rG (gR S i)) q1 := ⟨qz, hsz', ⟨cc, hcc, rfl⟩, la, hup_s _ _ _, r2.fm (fun a c _ h => hx1 a c h)⟩
                have hR2 := RepC.set (R' := r_add (gR S i) (nI cc, n, v)) hx1 hR (by omega) hl2 (r3.fm (fun a c _ h => hx1 a c h)) rfl rfl rfl rfl r8
                have hG2 := hG.rep (by omega) hi hx1 (fun k hk => va_n (fun e => hk (Or.inl e))) hR2
                refine (c_putR hA h5' r1 rfl <| i_aload rfl <| i_aload rfl <| i_push <| ?_)
                refine j_callV (c_cell hA (by omega) hG2.1) (sp_sendToAll (i := i) (kind := 1) (hE.ext hx1) hN hi hG2 hT) rfl rfl ?_
                rintro w F' ⟨rfl, f3, c3, rfl, x3, hg3⟩
                refine (i_push <| i_iret ?_)
                have e : p_request N S (nI i) (nI cc) n v = (0, g_all (g_rep S i (r_add (gR S i) (nI cc, n, v))) i 1 N) := by
                  rw [p_request, if_neg hc, rp, hcl, if_neg hl', if_neg hg', hnone]
                  exact if_pos hsz
                rw [e]
                exact ⟨rfl, f3, c3, rfl, hx1.trans x3, hg3⟩
              · intro hsz
                refine b_G_request_97 hX _ _ _ _ _ (i_push <| i_iret ?_)
                have e : p_request N S (nI i) (nI cc) n v = (-4, S) := by
                  rw [p_request, if_neg hc, rp, hcl, if_neg hl', if_neg hg', hnone]
                  exact if_neg hsz
                rw [e]
                exact ⟨rfl, f, cs, rfl, ext_r f, hG⟩
            · refine (i_astore <| i_aload rfl <| i_null_r ?_)
              refine b_G_request_75 hX _ _ _ _ _ (i_aload rfl <| i_aload rfl <| i_aload rfl <| ?_)
              refine j_callV (c_cell hA (by omega) h0) (sp_repeatAnswer (la := la) (va := va) hE hi (by omega) hG hle) rfl rfl ?_
              rintro w F' ⟨rfl, f3, c3, rfl, x3, hg3⟩
              refine (i_iret ?_)
              have e : p_request N S (nI i) (nI cc) n v = (if nI es.length ≤ rC (gR S i) then (1, g_ans S es) else (2, S)) := by
                rw [p_request, if_neg hc, rp, hcl, if_neg hl', if_neg hg', hsome]
              rw [e]
              by_cases h9 : nI es.length ≤ rC (gR S i)
              · rw [if_pos h9] at hg3 ⊢
                rw [if_pos h9]
                exact ⟨rfl, f3, c3, rfl, x3, hg3⟩
              · rw [if_neg h9] at hg3 ⊢
                rw [if_neg h9]
                exact ⟨rfl, f3, c3, rfl, x3, hg3⟩
          · intro hg
            refine b_G_request_55 hX _ _ _ _ _ (i_push <| i_iret ?_)
            have e : p_request N S (nI i) (nI cc) n v = (-3, S) := by
              rw [p_request, if_neg hc, rp, hcl, if_neg hl', if_pos (Int32.not_le.mp hg)]
            rw [e]
            exact ⟨rfl, f, cs, rfl, ext_r f, hG⟩
        · intro hl
          refine b_G_request_39 hX _ _ _ _ _ (i_push <| i_iret ?_)
          have e : p_request N S (nI i) (nI cc) n v = (-2, S) := by
            rw [p_request, if_neg hc, rp, hcl, if_pos (of_decide_eq_false hl)]
          rw [e]
          exact ⟨rfl, f, cs, rfl, ext_r f, hG⟩
      · intro hn
        exact h20 (fun q => hn q.2.2) _ _ _ _
end SPO
