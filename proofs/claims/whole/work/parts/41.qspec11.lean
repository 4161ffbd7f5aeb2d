section QSK
variable {l : Launch} {D : va_G} {cid : Nat → ClassId} {f : HF} {B : Nat → Nat} {N n i : Nat} {s s' : QS} {S : GS}
theorem mx_lt (y g v : Int32) : y < mx g v ↔ (y < g ∨ y < v) := by
  unfold mx
  by_cases h : g < v
  · rw [if_pos h]
    exact ⟨Or.inr, fun q => q.elim (fun z => Int32.lt_trans z h) id⟩
  · rw [if_neg h]
    exact ⟨Or.inl, fun q => q.elim id (fun z => Int32.lt_of_lt_of_le z (Int32.not_lt.mp h))⟩
theorem gno_lt {y w : Int32} (hy : ¬ y < 0) : ∀ (es : List Ent) (g : Int32), y < gno es w g ↔ (y < g ∨ ∃ e, e ∈ es ∧ e.1 = w ∧ y < e.2.1)
  | [], g => by
    have e0 : (y < gno [] w g) ↔ y < g := by
      rw [gno]
      split
      · rw [mx_lt]
        exact ⟨fun q => q.elim id (fun z => absurd z hy), Or.inl⟩
      · exact Iff.rfl
    rw [e0]
    exact ⟨Or.inl, fun q => q.elim id (fun ⟨e, h, _⟩ => by cases h)⟩
  | e :: es, g => by
    rw [gno, gno_lt hy es]
    by_cases h : e.1 = w
    · rw [if_pos h, mx_lt]
      constructor
      · rintro ((q | q) | ⟨e', h1, h2⟩)
        · exact Or.inl q
        · exact Or.inr ⟨e, List.mem_cons_self, h, q⟩
        · exact Or.inr ⟨e', List.mem_cons_of_mem _ h1, h2⟩
      · rintro (q | ⟨e', h1, h2, h3⟩)
        · exact Or.inl (Or.inl q)
        · rcases List.mem_cons.mp h1 with rfl | h1
          · exact Or.inl (Or.inr h3)
          · exact Or.inr ⟨e', h1, h2, h3⟩
    · rw [if_neg h]
      constructor
      · rintro (q | ⟨e', h1, h2⟩)
        · exact Or.inl q
        · exact Or.inr ⟨e', List.mem_cons_of_mem _ h1, h2⟩
      · rintro (q | ⟨e', h1, h2, h3⟩)
        · exact Or.inl q
        · rcases List.mem_cons.mp h1 with rfl | h1
          · exact absurd h2 h
          · exact Or.inr ⟨e', h1, h2, h3⟩
theorem fse_mem {c : Int32} : ∀ {es : List Ent} {e : Ent}, e ∈ fse es c → e ∈ es
  | [], e, h => h
  | e' :: es, e, h => by
    rw [fse] at h
    split at h
    · exact List.mem_cons_of_mem _ (fse_mem h)
    · exact h
theorem fse_succ : ∀ {es : List Ent} {k : Nat}, k < es.length → es.length ≤ 24 → ∃ e, fse es (nI (k + 1)) = e :: fse es (nI k)
  | [], k, h, _ => by simp at h
  | e :: es, k, h, h24 => by
    have h1 : k < es.length + 1 := h
    have h2 : es.length + 1 ≤ 24 := h24
    rcases Nat.lt_or_ge k es.length with h3 | h3
    · obtain ⟨e', he⟩ := fse_succ h3 (by omega)
      refine ⟨e', ?_⟩
      rw [fse, if_pos (nI_lt (by omega) (by omega)), fse, if_pos (nI_lt (by omega) (by omega))]
      exact he
    · have h4 : k = es.length := by omega
      subst h4
      refine ⟨e, ?_⟩
      rw [fse, if_neg (nI_nlt (by omega) (by omega)), fse, if_pos (nI_lt (by omega) (by omega)), fse_all (by omega) (Nat.le_refl _) (by omega)]
theorem fnd_len {c y : Int32} : ∀ {es es' : List Ent}, fnd es c y = some es' → es'.length ≤ es.length
  | [], es', h => by
    rw [fnd] at h
    split at h
    · cases h
      exact Nat.le_refl _
    · cases h
  | e :: es, es', h => by
    rw [fnd] at h
    split at h
    · cases h
      exact Nat.le_refl _
    · have := fnd_len h
      exact Nat.le_succ_of_le this
theorem fnd_fse {c y : Int32} (hy : ¬ (0 : Int32) = y) : ∀ {es es' : List Ent}, es.length ≤ 24 → fnd es c y = some es' → es' = fse es (nI es'.length) ∧ 0 < es'.length
  | [], es', _, h => by
    rw [fnd, if_neg (fun q => hy q.2)] at h
    cases h
  | e :: es, es', h24, h => by
    have h2 : es.length + 1 ≤ 24 := h24
    rw [fnd] at h
    split at h
    · cases h
      refine ⟨?_, Nat.succ_pos _⟩
      rw [List.length_cons, fse, if_neg (nI_nlt (Nat.le_refl _) (by omega))]
    · have h3 := fnd_len h
      obtain ⟨h4, h5⟩ := fnd_fse hy (by omega) h
      refine ⟨?_, h5⟩
      rw [fse, if_pos (nI_lt (by omega) (by omega))]
      exact h4
def smx : Option (List Ent) → Int32
  | none => -1
  | some E => nI E.length - 1
theorem sp_Q_request {x c y v : Int32} (hB : QI B) (hN : N = 3 ∨ N = 5) (hR : Rel N s S none) (hI : Inv N n S) (hn : n < 2 ^ 30) (hT : gT S < 2 ^ 28) : CS l D cid m_Q_request [.ref (B 0), .int x, .int c, .int y, .int v] (hQ f B N s) (PR f B N (p_request N S x c y v).1 (p_request N S x c y v).2) := by
  intro X hX
  have h22 : ¬ (isR N x = true ∧ isCl c = true ∧ 1 ≤ y) → ∀ (x5 x6 : Option Value) (bc bs : Nat), FR l D cid m_Q_request X 22 [some (.ref (B 0)), some (.int x), some (.int c), some (.int y), some (.int v), x5, x6] [] (hQ f B N s) bc bs := by
    intro hc x5 x6 bc bs
    refine b_Q_request_22 hX _ _ _ _ _ (i_push <| i_iret ?_)
    have e : p_request N S x c y v = (-1, S) := by rw [p_request, if_pos hc]
    rw [e]
    exact ⟨rfl, s, rfl, hR⟩
  refine b_Q_request_0 hX _ _ _ _ _ (i_aload rfl <| i_iload rfl <| j_rdV (q_this hB) (sp_Q_isReplica hB) rfl rfl <| i_ifb ?_ ?_)
  · intro hb
    exact h22 (fun q => by rw [hb] at q; exact absurd q.1 (by decide)) _ _ _ _
  · intro hb
    refine b_Q_request_8 hX _ _ _ _ _ (i_iload rfl <| i_if ?_ ?_)
    · intro h
      exact h22 (fun q => (of_decide_eq_true q.2.1).1 h) _ _ _ _
    · intro h
      refine b_Q_request_12 hX _ _ _ _ _ (i_iload rfl <| i_push <| i_cmp ?_ ?_)
      · intro h3
        exact h22 (fun q => (cl_3 c).mp h3 (of_decide_eq_true q.2.1).2) _ _ _ _
      · intro h3
        have hb' : isCl c = true := decide_eq_true ⟨h, Classical.byContradiction (fun q => h3 ((cl_3 c).mpr q))⟩
        refine b_Q_request_17 hX _ _ _ _ _ (i_iload rfl <| i_push <| i_cmp ?_ ?_)
        · intro hy1
          have hc : ¬ ¬ (isR N x = true ∧ isCl c = true ∧ 1 ≤ y) := fun q => q ⟨hb, hb', hy1⟩
          have hyp : 1 ≤ y.toInt := by
            have := Int32.le_iff_toInt_le.mp hy1
            rw [show (1 : Int32).toInt = 1 from by decide] at this
            exact this
          have hy0 : ¬ y < 0 := fun q => by
            rw [Int32.lt_iff_toInt_lt, show (0 : Int32).toInt = 0 from by decide] at q
            omega
          have hyz : ¬ (0 : Int32) = y := fun q => by
            rw [← q, show (0 : Int32).toInt = 0 from by decide] at hyp
            omega
          obtain ⟨i, hi, rfl⟩ := isR_t (by omega) hb
          have hcl : (nI i).toNatClampNeg = i := nI_clamp (by omega)
          obtain ⟨a1, a2, a3, a4, a5, a6⟩ := hR.2.2.2.1 i hi
          have hlen := a5.2.1
          have hIR := hI.1 i hi
          obtain ⟨vr, hvr, hvre⟩ := hIR.2.1
          obtain ⟨cc, hcc, ecc⟩ := hIR.2.2.2.2.1
          refine b_Q_request_24 hX _ _ _ _ _ (i_aload rfl <| i_iload rfl <| j_rdV (q_this hB) (sp_Q_leads (v := vr) hB hN (by omega) a1 a2 hvre (by omega)) rfl rfl <| i_ifbn ?_ ?_)
          · intro hl
            have hl' : ¬ ¬ leads N (gR S i) i := fun q => q (of_decide_eq_true hl)
            have loop : ∀ k, k ≤ (rG (gR S i)).length → (∀ e, e ∈ fse (rG (gR S i)) (nI k) → e.1 = c → ¬ y < e.2.1) → ∀ bc bs, FR l D cid m_Q_request X 41 [some (.ref (B 0)), some (.int (nI i)), some (.int c), some (.int y), some (.int v), some (.int (smx (fnd (fse (rG (gR S i)) (nI k)) c y))), some (.int (nI k))] [] (hQ f B N s) bc bs := by
              refine up_to ?_ ?_
              · intro hno bc bs
                rw [fse_all hlen (Nat.le_refl _) (by omega)] at hno ⊢
                have hg' : ¬ y < gno (rG (gR S i)) c 0 := fun q => ((gno_lt hy0 _ _).mp q).elim hy0 (fun ⟨e, h1, h2, h3⟩ => hno e h1 h2 h3)
                refine b_Q_request_41 hX _ _ _ _ _ (i_iload rfl <| i_aload rfl <| q_getf hB rfl <| i_iload rfl <| q_ald (c := i) hB (by first | rfl | simp only [nn_1, nn_5, nn_6, nn_24, nn_64, nn_69, nn_70, nn_320, nn_1656, nI_mul, nI_add]) (by show _ < 95; omega) <| i_cmp_t (by rw [a5.1]; exact Int32.le_refl _) ?_)
                cases hf : fnd (rG (gR S i)) c y with
                | none =>
                  show FR l D cid m_Q_request X 129 [some (.ref (B 0)), some (.int (nI i)), some (.int c), some (.int y), some (.int v), some (.int (-1)), some (.int (nI (rG (gR S i)).length))] [] (hQ f B N s) bc bs
                  refine b_Q_request_129 hX _ _ _ _ _ (i_iload rfl <| i_if_t (by decide) ?_)
                  refine b_Q_request_154 hX _ _ _ _ _ (i_iload rfl <| i_if_t (by decide) ?_)
                  refine b_Q_request_161 hX _ _ _ _ _ (i_aload rfl <| q_getf hB rfl <| i_iload rfl <| q_ald (c := i) hB (by first | rfl | simp only [nn_1, nn_5, nn_6, nn_24, nn_64, nn_69, nn_70, nn_320, nn_1656, nI_mul, nI_add]) (by show _ < 95; omega) <| i_push <| i_cmp ?_ ?_)
                  · intro hsz
                    rw [a5.1] at hsz
                    have hlt : (rG (gR S i)).length < 24 := by
                      rcases Nat.lt_or_ge (rG (gR S i)).length 24 with h9 | h9
                      · exact h9
                      · exact absurd (show nI (rG (gR S i)).length = 24 by rw [show (rG (gR S i)).length = 24 by omega]; rfl) hsz
                    have h1 := rel_app (e := (c, y, v)) (by omega) hi hR hlt
                    refine b_Q_request_175 hX _ _ _ _ _ (i_aload rfl <| i_iload rfl <| i_iload rfl <| i_iload rfl <| i_iload rfl <| j_upV (q_this hB) (sp_Q_append (L := (rG (gR S i)).length) hB (by omega) a5.1 hlt) rfl rfl <| i_aload rfl <| i_iload rfl <| i_push <| ?_)
                    refine j_callV (q_this hB) (sp_Q_sendAll (what := 1) hB hN hi h1 (by show gT S < _; omega)) rfl rfl ?_
                    rintro w F' ⟨rfl, s9, rfl, h9⟩
                    refine (i_push <| i_iret ?_)
                    have e : p_request N S (nI i) c y v = (0, g_all (g_rep S i (r_add (gR S i) (c, y, v))) i 1 N) := by
                      rw [p_request, if_neg hc, rp, hcl, if_neg hl', if_neg hg', hf]
                      exact if_pos (nI_lt hlt (by decide))
                    rw [e]
                    exact ⟨rfl, s9, rfl, h9⟩
                  · intro hsz
                    have hsz' := Classical.not_not.mp hsz
                    rw [a5.1] at hsz'
                    refine b_Q_request_172 hX _ _ _ _ _ (i_push <| i_iret ?_)
                    have e : p_request N S (nI i) c y v = (-4, S) := by
                      rw [p_request, if_neg hc, rp, hcl, if_neg hl', if_neg hg', hf]
                      exact if_neg (by rw [hsz']; decide)
                    rw [e]
                    exact ⟨rfl, s, rfl, hR⟩
                | some E =>
                  obtain ⟨hE1, hE2⟩ := fnd_fse hyz hlen hf
                  have hE3 := fnd_len hf
                  have esm : smx (some E) = nI (E.length - 1) := by
                    show nI E.length - 1 = _
                    rw [show nI E.length = nI ((E.length - 1) + 1) by rw [show E.length - 1 + 1 = E.length by omega], nI_pred]
                  rw [esm]
                  have ep : p_request N S (nI i) c y v = (if nI E.length ≤ rC (gR S i) then (1, g_ans S E) else (2, S)) := by
                    rw [p_request, if_neg hc, rp, hcl, if_neg hl', if_neg hg', hf]
                  have h154 : ¬ nI E.length ≤ rC (gR S i) → ∀ bc bs, FR l D cid m_Q_request X 154 [some (.ref (B 0)), some (.int (nI i)), some (.int c), some (.int y), some (.int v), some (.int (nI (E.length - 1))), some (.int (nI (rG (gR S i)).length))] [] (hQ f B N s) bc bs := by
                    intro hle bc bs
                    refine b_Q_request_154 hX _ _ _ _ _ (i_iload rfl <| i_if_f (nI_pos (by omega)) ?_)
                    refine b_Q_request_159 hX _ _ _ _ _ (i_push <| i_iret ?_)
                    rw [ep, if_neg hle]
                    exact ⟨rfl, s, rfl, hR⟩
                  refine b_Q_request_129 hX _ _ _ _ _ (i_iload rfl <| i_if_f (nI_pos (by omega)) ?_)
                  refine b_Q_request_134 hX _ _ _ _ _ (i_iload rfl <| i_aload rfl <| q_getf hB rfl <| i_iload rfl <| q_ald (c := i) hB (by first | rfl | simp only [nn_1, nn_5, nn_6, nn_24, nn_64, nn_69, nn_70, nn_320, nn_1656, nI_mul, nI_add]) (by show _ < 5; omega) <| i_cmp ?_ ?_)
                  · intro hle
                    rw [a4, ecc] at hle
                    refine h154 (fun q => ?_) _ _
                    rw [ecc] at q
                    have q1 := (nI_leI (by omega) (by omega)).mp q
                    have q2 := (nI_leI (by omega) (by omega)).mp hle
                    omega
                  · intro hle
                    rw [a4, ecc] at hle
                    have hpos : nI E.length ≤ rC (gR S i) := by
                      rw [ecc]
                      rcases Nat.lt_or_ge (E.length - 1) cc with q | q
                      · exact nI_le (by omega) (by omega)
                      · exact absurd (nI_le q (by omega)) hle
                    obtain ⟨ck, hck, hce⟩ := hd_mem (c := nI (E.length - 1 + 1)) hIR.2.2.2.1
                    have hcel : s.1 3 (24 * i + (E.length - 1)) = nI ck := (hd_fse a5 (by omega)).1.trans hce
                    have h1 := rel_ans (k := E.length - 1) (by omega) hi hR (by omega) hcel hck
                    rw [show E.length - 1 + 1 = E.length by omega, ← hE1] at h1
                    refine b_Q_request_145 hX _ _ _ _ _ (i_aload rfl <| i_iload rfl <| i_iload rfl <| j_upV (q_this hB) (sp_Q_answerTo (c := ck) hB (by omega) a5.1 hlen (by omega) hcel hck) rfl rfl <| i_push <| i_iret ?_)
                    rw [ep, if_pos hpos]
                    exact ⟨rfl, _, rfl, h1⟩
              · intro k hk ih hno bc bs
                simp only [nI_succ] at ih
                obtain ⟨e, he⟩ := fse_succ hk hlen
                rw [nI_succ] at he
                rw [he] at ih
                obtain ⟨k1, k2, k3⟩ := hd_fse a5 hk
                rw [nI_succ, he] at k1 k2
                have k1' : s.1 3 (24 * i + k) = e.1 := k1
                have k2' : s.1 4 (24 * i + k) = e.2.1 := k2
                have hmem : e ∈ rG (gR S i) := fse_mem (c := nI k + 1) (by rw [he]; exact List.mem_cons_self)
                have hlk := fse_len (rG (gR S i)) k hlen (by omega)
                have h123 : ∀ (z : Int32) (bc bs : Nat), z = smx (fnd (e :: fse (rG (gR S i)) (nI k)) c y) → (e.1 = c → ¬ y < e.2.1) → FR l D cid m_Q_request X 123 [some (.ref (B 0)), some (.int (nI i)), some (.int c), some (.int y), some (.int v), some (.int z), some (.int (nI k))] [] (hQ f B N s) bc bs := by
                  intro z bc bs hz hne
                  subst hz
                  refine b_Q_request_123 hX _ _ _ _ _ (i_iinc rfl <| i_end ?_)
                  refine ih (fun e' he' hc' => ?_) _ _
                  rcases List.mem_cons.mp he' with rfl | h9
                  · exact hne hc'
                  · exact hno e' h9 hc'
                have h87 : (e.1 = c → ¬ y < e.2.1) → ∀ bc bs, FR l D cid m_Q_request X 87 [some (.ref (B 0)), some (.int (nI i)), some (.int c), some (.int y), some (.int v), some (.int (smx (fnd (fse (rG (gR S i)) (nI k)) c y))), some (.int (nI k))] [] (hQ f B N s) bc bs := by
                  intro hne bc bs
                  refine b_Q_request_87 hX _ _ _ _ _ (i_aload rfl <| q_getf hB rfl <| i_push <| i_iload rfl <| i_bin <| i_iload rfl <| i_bin <| q_ald (c := 24 * i + k) hB (by first | rfl | simp only [nn_1, nn_5, nn_6, nn_24, nn_64, nn_69, nn_70, nn_320, nn_1656, nI_mul, nI_add]) (by show _ < 2280; omega) <| i_iload rfl <| i_cmp ?_ ?_)
                  · intro q
                    rw [k1'] at q
                    exact h123 _ _ _ (by rw [fnd, if_neg (fun z => q z.1)]) hne
                  · intro q
                    have q' := Classical.not_not.mp q
                    rw [k1'] at q'
                    refine b_Q_request_103 hX _ _ _ _ _ (i_aload rfl <| q_getf hB rfl <| i_push <| i_iload rfl <| i_bin <| i_iload rfl <| i_bin <| q_ald (c := 24 * i + k) hB (by first | rfl | simp only [nn_1, nn_5, nn_6, nn_24, nn_64, nn_69, nn_70, nn_320, nn_1656, nI_mul, nI_add]) (by show _ < 2280; omega) <| i_iload rfl <| i_cmp ?_ ?_)
                    · intro r
                      rw [k2'] at r
                      exact h123 _ _ _ (by rw [fnd, if_neg (fun z => r z.2)]) hne
                    · intro r
                      have r' := Classical.not_not.mp r
                      rw [k2'] at r'
                      refine b_Q_request_119 hX _ _ _ _ _ (i_iload rfl <| i_istore <| i_end ?_)
                      refine h123 _ _ _ ?_ hne
                      rw [fnd, if_pos ⟨q', r'⟩]
                      show _ = nI (e :: fse (rG (gR S i)) (nI k)).length - 1
                      rw [List.length_cons, hlk, nI_pred]
                refine b_Q_request_41 hX _ _ _ _ _ (i_iload rfl <| i_aload rfl <| q_getf hB rfl <| i_iload rfl <| q_ald (c := i) hB (by first | rfl | simp only [nn_1, nn_5, nn_6, nn_24, nn_64, nn_69, nn_70, nn_320, nn_1656, nI_mul, nI_add]) (by show _ < 95; omega) <| i_cmp_f (by rw [a5.1]; exact nI_ge hk (by omega)) ?_)
                refine b_Q_request_52 hX _ _ _ _ _ (i_aload rfl <| q_getf hB rfl <| i_push <| i_iload rfl <| i_bin <| i_iload rfl <| i_bin <| q_ald (c := 24 * i + k) hB (by first | rfl | simp only [nn_1, nn_5, nn_6, nn_24, nn_64, nn_69, nn_70, nn_320, nn_1656, nI_mul, nI_add]) (by show _ < 2280; omega) <| i_iload rfl <| i_cmp ?_ ?_)
                · intro q
                  rw [k1'] at q
                  exact h87 (fun z => absurd z q) _ _
                · intro q
                  have q' := Classical.not_not.mp q
                  rw [k1'] at q'
                  refine b_Q_request_68 hX _ _ _ _ _ (i_aload rfl <| q_getf hB rfl <| i_push <| i_iload rfl <| i_bin <| i_iload rfl <| i_bin <| q_ald (c := 24 * i + k) hB (by first | rfl | simp only [nn_1, nn_5, nn_6, nn_24, nn_64, nn_69, nn_70, nn_320, nn_1656, nI_mul, nI_add]) (by show _ < 2280; omega) <| i_iload rfl <| i_cmp ?_ ?_)
                  · intro r
                    rw [k2'] at r
                    exact h87 (fun _ => Int32.not_lt.mpr r) _ _
                  · intro r
                    rw [k2'] at r
                    refine b_Q_request_84 hX _ _ _ _ _ (i_push <| i_iret ?_)
                    have hg : y < gno (rG (gR S i)) c 0 := (gno_lt hy0 _ _).mpr (Or.inr ⟨e, hmem, q', Int32.not_le.mp r⟩)
                    have ep : p_request N S (nI i) c y v = (-3, S) := by
                      rw [p_request, if_neg hc, rp, hcl, if_neg hl', if_pos hg]
                    rw [ep]
                    exact ⟨rfl, s, rfl, hR⟩
            refine b_Q_request_35 hX _ _ _ _ _ (i_push <| i_istore <| i_push <| i_istore <| i_end ?_)
            have e0 : fse (rG (gR S i)) (nI 0) = [] := by
              have h9 := fse_len (rG (gR S i)) 0 hlen (Nat.zero_le _)
              exact List.length_eq_zero_iff.mp h9
            have hq := loop 0 (Nat.zero_le _) (by rw [e0]; intro e he; cases he)
            rw [e0, show fnd [] c y = none by rw [fnd, if_neg (fun q => hyz q.2)]] at hq
            exact hq _ _
          · intro hl
            refine b_Q_request_32 hX _ _ _ _ _ (i_push <| i_iret ?_)
            have e : p_request N S (nI i) c y v = (-2, S) := by
              rw [p_request, if_neg hc, rp, hcl, if_pos (of_decide_eq_false hl)]
            rw [e]
            exact ⟨rfl, s, rfl, hR⟩
        · intro hy1
          exact h22 (fun q => hy1 q.2.2) _ _ _ _
end QSK
