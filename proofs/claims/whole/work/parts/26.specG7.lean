section SPM
variable {l : Launch} {D : va_G} {cid : Nat → ClassId} {Z : Nat → Prop} {f : HF} {A : Nat → Nat} {N i : Nat} {cs : Nat → PC} {S : GS}
theorem sp_status {x : Int32} (hE : En Z A N f) (hN : N = 3 ∨ N = 5) (hG : GRc Z f A N cs S) : CS l D cid m_G_status [.ref (A 0), .int x] (hC (5 + 5 * N) A f cs) (PH Z f A N (some (.int (p_status N S x))) S) := by
  intro X hX
  have hA := hE.1
  obtain ⟨h0, ⟨g1, e1, n1⟩, h2⟩ := id hG
  refine b_G_status_0 hX _ _ _ _ _ (i_aload rfl <| i_iload rfl <| j_rdV (c_cell hA (by omega) h0) (sp_isReplica hA h0) rfl rfl <| i_ifb ?_ ?_)
  · intro hb
    refine b_G_status_20 hX _ _ _ _ _ (i_push <| i_end ?_)
    refine b_G_status_21 hX _ _ _ _ _ (i_iret ?_)
    exact ⟨by rw [p_status, if_neg (by rw [hb]; decide)], f, cs, rfl, ext_r f, hG⟩
  · intro hb
    obtain ⟨i, hi, rfl⟩ := isR_t (by omega) hb
    have hcl : (nI i).toNatClampNeg = i := nI_clamp (by omega)
    obtain ⟨la, va, r1, r2, r3⟩ := hG.2.2.2.2.2 i hi
    obtain ⟨lb, hlb⟩ := r2.cell
    have hlc := hE.im (cs := cs) _ _ r2.nz hlb
    have h5' : 5 + 5 * i < 5 + 5 * N := by omega
    refine b_G_status_8 hX _ _ _ _ _ (i_aload rfl <| i_getf (c_cell hA (by omega) h0) rfl <| i_iload rfl <| i_aldq' (c_cell hA (by omega) e1) (⟨⟨rfl, hi, by omega⟩, congrArg va_rf (n1 i hi)⟩) <| i_getf (c_cell hA h5' r1) rfl <| i_end ?_)
    refine b_G_status_21 hX _ _ _ _ _ (i_iret ?_)
    exact ⟨by rw [p_status, if_pos hb, rp, hcl], f, cs, rfl, ext_r f, hG⟩
theorem sp_view {x : Int32} (hE : En Z A N f) (hN : N = 3 ∨ N = 5) (hG : GRc Z f A N cs S) : CS l D cid m_G_view [.ref (A 0), .int x] (hC (5 + 5 * N) A f cs) (PH Z f A N (some (.int (p_view N S x))) S) := by
  intro X hX
  have hA := hE.1
  obtain ⟨h0, ⟨g1, e1, n1⟩, h2⟩ := id hG
  refine b_G_view_0 hX _ _ _ _ _ (i_aload rfl <| i_iload rfl <| j_rdV (c_cell hA (by omega) h0) (sp_isReplica hA h0) rfl rfl <| i_ifb ?_ ?_)
  · intro hb
    refine b_G_view_20 hX _ _ _ _ _ (i_push <| i_end ?_)
    refine b_G_view_21 hX _ _ _ _ _ (i_iret ?_)
    exact ⟨by rw [p_view, if_neg (by rw [hb]; decide)], f, cs, rfl, ext_r f, hG⟩
  · intro hb
    obtain ⟨i, hi, rfl⟩ := isR_t (by omega) hb
    have hcl : (nI i).toNatClampNeg = i := nI_clamp (by omega)
    obtain ⟨la, va, r1, r2, r3⟩ := hG.2.2.2.2.2 i hi
    obtain ⟨lb, hlb⟩ := r2.cell
    have hlc := hE.im (cs := cs) _ _ r2.nz hlb
    have h5' : 5 + 5 * i < 5 + 5 * N := by omega
    refine b_G_view_8 hX _ _ _ _ _ (i_aload rfl <| i_getf (c_cell hA (by omega) h0) rfl <| i_iload rfl <| i_aldq' (c_cell hA (by omega) e1) (⟨⟨rfl, hi, by omega⟩, congrArg va_rf (n1 i hi)⟩) <| i_getf (c_cell hA h5' r1) rfl <| i_end ?_)
    refine b_G_view_21 hX _ _ _ _ _ (i_iret ?_)
    exact ⟨by rw [p_view, if_pos hb, rp, hcl], f, cs, rfl, ext_r f, hG⟩
theorem sp_commit {x : Int32} (hE : En Z A N f) (hN : N = 3 ∨ N = 5) (hG : GRc Z f A N cs S) : CS l D cid m_G_commit [.ref (A 0), .int x] (hC (5 + 5 * N) A f cs) (PH Z f A N (some (.int (p_commit N S x))) S) := by
  intro X hX
  have hA := hE.1
  obtain ⟨h0, ⟨g1, e1, n1⟩, h2⟩ := id hG
  refine b_G_commit_0 hX _ _ _ _ _ (i_aload rfl <| i_iload rfl <| j_rdV (c_cell hA (by omega) h0) (sp_isReplica hA h0) rfl rfl <| i_ifb ?_ ?_)
  · intro hb
    refine b_G_commit_20 hX _ _ _ _ _ (i_push <| i_end ?_)
    refine b_G_commit_21 hX _ _ _ _ _ (i_iret ?_)
    exact ⟨by rw [p_commit, if_neg (by rw [hb]; decide)], f, cs, rfl, ext_r f, hG⟩
  · intro hb
    obtain ⟨i, hi, rfl⟩ := isR_t (by omega) hb
    have hcl : (nI i).toNatClampNeg = i := nI_clamp (by omega)
    obtain ⟨la, va, r1, r2, r3⟩ := hG.2.2.2.2.2 i hi
    obtain ⟨lb, hlb⟩ := r2.cell
    have hlc := hE.im (cs := cs) _ _ r2.nz hlb
    have h5' : 5 + 5 * i < 5 + 5 * N := by omega
    refine b_G_commit_8 hX _ _ _ _ _ (i_aload rfl <| i_getf (c_cell hA (by omega) h0) rfl <| i_iload rfl <| i_aldq' (c_cell hA (by omega) e1) (⟨⟨rfl, hi, by omega⟩, congrArg va_rf (n1 i hi)⟩) <| i_getf (c_cell hA h5' r1) rfl <| i_end ?_)
    refine b_G_commit_21 hX _ _ _ _ _ (i_iret ?_)
    exact ⟨by rw [p_commit, if_pos hb, rp, hcl], f, cs, rfl, ext_r f, hG⟩
theorem sp_length {x : Int32} (hE : En Z A N f) (hN : N = 3 ∨ N = 5) (hG : GRc Z f A N cs S) : CS l D cid m_G_length [.ref (A 0), .int x] (hC (5 + 5 * N) A f cs) (PH Z f A N (some (.int (p_length N S x))) S) := by
  intro X hX
  have hA := hE.1
  obtain ⟨h0, ⟨g1, e1, n1⟩, h2⟩ := id hG
  refine b_G_length_0 hX _ _ _ _ _ (i_aload rfl <| i_iload rfl <| j_rdV (c_cell hA (by omega) h0) (sp_isReplica hA h0) rfl rfl <| i_ifb ?_ ?_)
  · intro hb
    refine b_G_length_23 hX _ _ _ _ _ (i_push <| i_end ?_)
    refine b_G_length_24 hX _ _ _ _ _ (i_iret ?_)
    exact ⟨by rw [p_length, if_neg (by rw [hb]; decide)], f, cs, rfl, ext_r f, hG⟩
  · intro hb
    obtain ⟨i, hi, rfl⟩ := isR_t (by omega) hb
    have hcl : (nI i).toNatClampNeg = i := nI_clamp (by omega)
    obtain ⟨la, va, r1, r2, r3⟩ := hG.2.2.2.2.2 i hi
    obtain ⟨lb, hlb⟩ := r2.cell
    have hlc := hE.im (cs := cs) _ _ r2.nz hlb
    have h5' : 5 + 5 * i < 5 + 5 * N := by omega
    refine b_G_length_8 hX _ _ _ _ _ (i_aload rfl <| i_getf (c_cell hA (by omega) h0) rfl <| i_iload rfl <| i_aldq' (c_cell hA (by omega) e1) (⟨⟨rfl, hi, by omega⟩, congrArg va_rf (n1 i hi)⟩) <| i_getf (c_cell hA h5' r1) rfl <| i_getf hlc rfl <| i_end ?_)
    refine b_G_length_24 hX _ _ _ _ _ (i_iret ?_)
    exact ⟨by rw [p_length, if_pos hb, rp, hcl], f, cs, rfl, ext_r f, hG⟩
theorem sp_sent (hE : En Z A N f) (hG : GRc Z f A N cs S) : CS l D cid m_G_sent [.ref (A 0)] (hC (5 + 5 * N) A f cs) (PH Z f A N (some (.int (nI (gT S)))) S) := by
  intro X hX
  have hA := hE.1
  refine b_G_sent_0 hX _ _ _ _ _ (i_aload rfl <| i_getf (c_cell hA (by omega) hG.1) rfl <| i_iret ?_)
  exact ⟨rfl, f, cs, rfl, ext_r f, hG⟩
theorem sp_answered {x : Int32} (hE : En Z A N f) (hG : GRc Z f A N cs S) : CS l D cid m_G_answered [.ref (A 0), .int x] (hC (5 + 5 * N) A f cs) (PH Z f A N (some (.int (p_answered S x))) S) := by
  intro X hX
  have hA := hE.1
  obtain ⟨h0, h1, h2, h3, h4, h5⟩ := id hG
  obtain ⟨g, e, n⟩ := h3
  refine b_G_answered_0 hX _ _ _ _ _ (i_iload rfl <| j_rdS (sp_isClient) rfl rfl <| i_ifb ?_ ?_)
  · intro hb
    refine b_G_answered_16 hX _ _ _ _ _ (i_push <| i_end ?_)
    refine b_G_answered_17 hX _ _ _ _ _ (i_iret ?_)
    exact ⟨by rw [p_answered, if_neg (by rw [hb]; decide)], f, cs, rfl, ext_r f, hG⟩
  · intro hb
    obtain ⟨c, hc, rfl⟩ := isCl_t hb
    have hcl : (nI c).toNatClampNeg = c := nI_clamp (by omega)
    refine b_G_answered_7 hX _ _ _ _ _ (i_aload rfl <| i_getf (c_cell hA (by omega) h0) rfl <| i_iload rfl <| i_ald (c_cell hA (by omega) e) ⟨rfl, hc, by omega⟩ <| i_end ?_)
    refine b_G_answered_17 hX _ _ _ _ _ (i_iret ?_)
    exact ⟨by rw [p_answered, if_pos hb, hcl, n c hc], f, cs, rfl, ext_r f, hG⟩
theorem sp_answer {x : Int32} (hE : En Z A N f) (hG : GRc Z f A N cs S) : CS l D cid m_G_answer [.ref (A 0), .int x] (hC (5 + 5 * N) A f cs) (PH Z f A N (some (.int (p_answer S x))) S) := by
  intro X hX
  have hA := hE.1
  obtain ⟨h0, h1, h2, h3, h4, h5⟩ := id hG
  obtain ⟨g, e, n⟩ := h4
  refine b_G_answer_0 hX _ _ _ _ _ (i_iload rfl <| j_rdS (sp_isClient) rfl rfl <| i_ifb ?_ ?_)
  · intro hb
    refine b_G_answer_16 hX _ _ _ _ _ (i_push <| i_end ?_)
    refine b_G_answer_17 hX _ _ _ _ _ (i_iret ?_)
    exact ⟨by rw [p_answer, if_neg (by rw [hb]; decide)], f, cs, rfl, ext_r f, hG⟩
  · intro hb
    obtain ⟨c, hc, rfl⟩ := isCl_t hb
    have hcl : (nI c).toNatClampNeg = c := nI_clamp (by omega)
    refine b_G_answer_7 hX _ _ _ _ _ (i_aload rfl <| i_getf (c_cell hA (by omega) h0) rfl <| i_iload rfl <| i_ald (c_cell hA (by omega) e) ⟨rfl, hc, by omega⟩ <| i_end ?_)
    refine b_G_answer_17 hX _ _ _ _ _ (i_iret ?_)
    exact ⟨by rw [p_answer, if_pos hb, hcl, n c hc], f, cs, rfl, ext_r f, hG⟩
theorem sp_vector {x y : Int32} (hE : En Z A N f) (hN : N = 3 ∨ N = 5) (hG : GRc Z f A N cs S) : CS l D cid m_G_vector [.ref (A 0), .int x, .int y] (hC (5 + 5 * N) A f cs) (PH Z f A N (some (.int (p_vector N S x y))) S) := by
  intro X hX
  have hA := hE.1
  obtain ⟨h0, ⟨g1, e1, n1⟩, h2⟩ := id hG
  have h30 : ¬ (isR N x = true ∧ isR N y = true) → ∀ bc bs, FR l D cid m_G_vector X 30 [some (.ref (A 0)), some (.int x), some (.int y)] [] (hC (5 + 5 * N) A f cs) bc bs := by
    intro hc bc bs
    refine b_G_vector_30 hX _ _ _ _ _ (i_push <| i_end ?_)
    refine b_G_vector_31 hX _ _ _ _ _ (i_iret ?_)
    exact ⟨by rw [p_vector, if_neg hc], f, cs, rfl, ext_r f, hG⟩
  refine b_G_vector_0 hX _ _ _ _ _ (i_aload rfl <| i_iload rfl <| j_rdV (c_cell hA (by omega) h0) (sp_isReplica hA h0) rfl rfl <| i_ifb ?_ ?_)
  · intro hb
    exact h30 (fun q => by rw [hb] at q; exact absurd q.1 (by decide)) _ _
  · intro hb
    refine b_G_vector_8 hX _ _ _ _ _ (i_aload rfl <| i_iload rfl <| j_rdV (c_cell hA (by omega) h0) (sp_isReplica hA h0) rfl rfl <| i_ifb ?_ ?_)
    · intro hb'
      exact h30 (fun q => by rw [hb'] at q; exact absurd q.2 (by decide)) _ _
    · intro hb'
      have hbb : isR N x = true ∧ isR N y = true := ⟨hb, hb'⟩
      obtain ⟨i, hi, rfl⟩ := isR_t (by omega) hb
      obtain ⟨j, hj, rfl⟩ := isR_t (by omega) hb'
      have hcl : (nI i).toNatClampNeg = i := nI_clamp (by omega)
      have hcl' : (nI j).toNatClampNeg = j := nI_clamp (by omega)
      obtain ⟨la, va, r1, r2, ⟨vz, g, hg, ng⟩, r4⟩ := hG.2.2.2.2.2 i hi
      have h5' : 5 + 5 * i < 5 + 5 * N := by omega
      refine b_G_vector_16 hX _ _ _ _ _ (i_aload rfl <| i_getf (c_cell hA (by omega) h0) rfl <| i_iload rfl <| i_aldq' (c_cell hA (by omega) e1) (⟨⟨rfl, hi, by omega⟩, congrArg va_rf (n1 i hi)⟩) <| i_getf (c_cell hA h5' r1) rfl <| i_iload rfl <| i_ald (hE.im _ _ vz hg) ⟨rfl, hj, by omega⟩ <| i_end ?_)
      refine b_G_vector_31 hX _ _ _ _ _ (i_iret ?_)
      exact ⟨by rw [p_vector, if_pos hbb, rp, hcl, hcl', ng j hj], f, cs, rfl, ext_r f, hG⟩
theorem sp_total {x : Int32} (hE : En Z A N f) (hN : N = 3 ∨ N = 5) (hG : GRc Z f A N cs S) : CS l D cid m_G_total [.ref (A 0), .int x] (hC (5 + 5 * N) A f cs) (PH Z f A N (some (.int (p_total N S x))) S) := by
  intro X hX
  have hA := hE.1
  obtain ⟨h0, ⟨g1, e1, n1⟩, h2⟩ := id hG
  refine b_G_total_0 hX _ _ _ _ _ (i_aload rfl <| i_iload rfl <| j_rdV (c_cell hA (by omega) h0) (sp_isReplica hA h0) rfl rfl <| i_ifbn ?_ ?_)
  · intro hb
    obtain ⟨i, hi, rfl⟩ := isR_t (by omega) hb
    have hcl : (nI i).toNatClampNeg = i := nI_clamp (by omega)
    obtain ⟨la, va, r1, r2, r3⟩ := hG.2.2.2.2.2 i hi
    obtain ⟨lb, hlb⟩ := r2.cell
    have h5' : 5 + 5 * i < 5 + 5 * N := by omega
    refine b_G_total_10 hX _ _ _ _ _ (i_aload rfl <| i_getf (c_cell hA (by omega) h0) rfl <| i_iload rfl <| i_aldq' (c_cell hA (by omega) e1) (⟨⟨rfl, hi, by omega⟩, congrArg va_rf (n1 i hi)⟩) <| i_astore <| i_aload rfl <| i_getf (c_cell hA h5' r1) rfl <| i_aload rfl <| i_getf (c_cell hA h5' r1) rfl <| ?_)
    refine j_callV (hE.im _ _ r2.nz hlb) (sp_firstEntries (Z := Z) hE.im r2) rfl rfl ?_
    rintro v F' ⟨rfl, b, rfl, hl⟩
    obtain ⟨bb, hbb⟩ := hl.cell
    refine (i_getf (hE.im _ _ hl.nz hbb) rfl <| i_iret ?_)
    exact ⟨by rw [p_total, if_pos hb, rp, hcl], f, cs, rfl, ext_r f, hG⟩
  · intro hb
    refine b_G_total_8 hX _ _ _ _ _ (i_push <| i_iret ?_)
    exact ⟨by rw [p_total, if_neg (by rw [hb]; decide)], f, cs, rfl, ext_r f, hG⟩
theorem sp_hasEntry {x k : Int32} (hE : En Z A N f) (hN : N = 3 ∨ N = 5) (hG : GRc Z f A N cs S) : CS l D cid m_G_hasEntry [.ref (A 0), .int x, .int k] (hC (5 + 5 * N) A f cs) (fun v F' => v = some (.int (bI (hasE N S x k))) ∧ F' = hC (5 + 5 * N) A f cs) := by
  intro X hX
  have hA := hE.1
  obtain ⟨h0, ⟨g1, e1, n1⟩, h2⟩ := id hG
  have h32 : ¬ (isR N x = true ∧ ¬ k < 0 ∧ k < nI (rG (rp S x)).length) → ∀ bc bs, FR l D cid m_G_hasEntry X 32 [some (.ref (A 0)), some (.int x), some (.int k)] [] (hC (5 + 5 * N) A f cs) bc bs := by
    intro hc bc bs
    refine b_G_hasEntry_32 hX _ _ _ _ _ (i_push <| i_end ?_)
    refine b_G_hasEntry_33 hX _ _ _ _ _ (i_zret ?_)
    exact ⟨by rw [hasE, decide_eq_false hc]; rfl, rfl⟩
  refine b_G_hasEntry_0 hX _ _ _ _ _ (i_aload rfl <| i_iload rfl <| j_rdV (c_cell hA (by omega) h0) (sp_isReplica hA h0) rfl rfl <| i_ifb ?_ ?_)
  · intro hb
    exact h32 (fun q => by rw [hb] at q; exact absurd q.1 (by decide)) _ _
  · intro hb
    refine b_G_hasEntry_8 hX _ _ _ _ _ (i_iload rfl <| i_if ?_ ?_)
    · intro h
      exact h32 (fun q => q.2.1 h) _ _
    · intro h
      obtain ⟨i, hi, rfl⟩ := isR_t (by omega) hb
      have hcl : (nI i).toNatClampNeg = i := nI_clamp (by omega)
      obtain ⟨la, va, r1, r2, r3⟩ := hG.2.2.2.2.2 i hi
      obtain ⟨lb, hlb⟩ := r2.cell
      have h5' : 5 + 5 * i < 5 + 5 * N := by omega
      refine b_G_hasEntry_12 hX _ _ _ _ _ (i_iload rfl <| i_aload rfl <| i_getf (c_cell hA (by omega) h0) rfl <| i_iload rfl <| i_aldq' (c_cell hA (by omega) e1) (⟨⟨rfl, hi, by omega⟩, congrArg va_rf (n1 i hi)⟩) <| i_getf (c_cell hA h5' r1) rfl <| i_getf (hE.im _ _ r2.nz hlb) rfl <| i_cmp ?_ ?_)
      · intro h'
        refine h32 (fun q => ?_) _ _
        rw [rp, hcl] at q
        exact Int32.not_lt.mpr h' q.2.2
      · intro h'
        refine b_G_hasEntry_28 hX _ _ _ _ _ (i_push <| i_end ?_)
        refine b_G_hasEntry_33 hX _ _ _ _ _ (i_zret ?_)
        refine ⟨?_, rfl⟩
        rw [hasE, rp, hcl, decide_eq_true ⟨hb, h, Int32.not_le.mp h'⟩]
        rfl
theorem sp_entry {x k : Int32} (hE : En Z A N f) (hN : N = 3 ∨ N = 5) (hG : GRc Z f A N cs S) : CS l D cid m_G_entry [.ref (A 0), .int x, .int k] (hC (5 + 5 * N) A f cs) (PH Z f A N (some (.int (p_entry N S x k))) S) := by
  intro X hX
  have hA := hE.1
  obtain ⟨h0, ⟨g1, e1, n1⟩, h2⟩ := id hG
  refine b_G_entry_0 hX _ _ _ _ _ (i_aload rfl <| i_iload rfl <| i_iload rfl <| j_rdV (c_cell hA (by omega) h0) (sp_hasEntry hE hN hG) rfl rfl <| i_ifb ?_ ?_)
  · intro hb
    refine b_G_entry_30 hX _ _ _ _ _ (i_push <| i_end ?_)
    refine b_G_entry_31 hX _ _ _ _ _ (i_iret ?_)
    exact ⟨by rw [p_entry, if_neg (by rw [hb]; decide)], f, cs, rfl, ext_r f, hG⟩
  · intro hb
    obtain ⟨i, hi, rfl⟩ := hasE_t (by omega) hb
    have hcl : (nI i).toNatClampNeg = i := nI_clamp (by omega)
    obtain ⟨la, va, r1, r2, r3⟩ := hG.2.2.2.2.2 i hi
    obtain ⟨lb, hlb⟩ := r2.cell
    have h5' : 5 + 5 * i < 5 + 5 * N := by omega
    refine b_G_entry_9 hX _ _ _ _ _ (i_aload rfl <| i_getf (c_cell hA (by omega) h0) rfl <| i_iload rfl <| i_aldq' (c_cell hA (by omega) e1) (⟨⟨rfl, hi, by omega⟩, congrArg va_rf (n1 i hi)⟩) <| i_getf (c_cell hA h5' r1) rfl <| i_iload rfl <| i_push <| i_bin <| ?_)
    refine j_callV (hE.im _ _ r2.nz hlb) (sp_firstEntries (Z := Z) hE.im r2) rfl rfl ?_
    rintro v F' ⟨rfl, b, rfl, hl⟩
    obtain ⟨bb, hbb⟩ := hl.cell
    refine (i_getf (hE.im _ _ hl.nz hbb) rfl <| i_end ?_)
    refine b_G_entry_31 hX _ _ _ _ _ (i_iret ?_)
    exact ⟨by rw [p_entry, if_pos hb, rp, hcl], f, cs, rfl, ext_r f, hG⟩
theorem sp_origin {x k : Int32} (hE : En Z A N f) (hN : N = 3 ∨ N = 5) (hG : GRc Z f A N cs S) : CS l D cid m_G_origin [.ref (A 0), .int x, .int k] (hC (5 + 5 * N) A f cs) (PH Z f A N (some (.int (p_origin N S x k))) S) := by
  intro X hX
  have hA := hE.1
  obtain ⟨h0, ⟨g1, e1, n1⟩, h2⟩ := id hG
  refine b_G_origin_0 hX _ _ _ _ _ (i_aload rfl <| i_iload rfl <| i_iload rfl <| j_rdV (c_cell hA (by omega) h0) (sp_hasEntry hE hN hG) rfl rfl <| i_ifbn ?_ ?_)
  · intro hb
    obtain ⟨i, hi, rfl⟩ := hasE_t (by omega) hb
    have hcl : (nI i).toNatClampNeg = i := nI_clamp (by omega)
    obtain ⟨la, va, r1, r2, r3⟩ := hG.2.2.2.2.2 i hi
    obtain ⟨lb, hlb⟩ := r2.cell
    have h5' : 5 + 5 * i < 5 + 5 * N := by omega
    refine b_G_origin_11 hX _ _ _ _ _ (i_aload rfl <| i_getf (c_cell hA (by omega) h0) rfl <| i_iload rfl <| i_aldq' (c_cell hA (by omega) e1) (⟨⟨rfl, hi, by omega⟩, congrArg va_rf (n1 i hi)⟩) <| i_getf (c_cell hA h5' r1) rfl <| i_iload rfl <| i_push <| i_bin <| ?_)
    refine j_callV (hE.im _ _ r2.nz hlb) (sp_firstEntries (Z := Z) hE.im r2) rfl rfl ?_
    rintro v F' ⟨rfl, b, rfl, hl⟩
    obtain ⟨bb, hbb⟩ := hl.cell
    refine (i_astore <| i_aload rfl <| i_getf (hE.im _ _ hl.nz hbb) rfl <| i_push <| i_bin <| i_aload rfl <| i_getf (hE.im _ _ hl.nz hbb) rfl <| i_bin <| i_iret ?_)
    exact ⟨by rw [p_origin, if_pos hb, rp, hcl], f, cs, rfl, ext_r f, hG⟩
  · intro hb
    refine b_G_origin_9 hX _ _ _ _ _ (i_push <| i_iret ?_)
    exact ⟨by rw [p_origin, if_neg (by rw [hb]; decide)], f, cs, rfl, ext_r f, hG⟩
theorem sp_message {k : Int32} (hE : En Z A N f) (hG : GRc Z f A N cs S) (hT : gT S < 2 ^ 30) : CS l D cid m_G_message [.ref (A 0), .int k] (hC (5 + 5 * N) A f cs) (PH Z f A N (some (.int (p_message S k))) S) := by
  intro X hX
  have hA := hE.1
  refine b_G_message_0 hX _ _ _ _ _ (i_aload rfl <| i_iload rfl <| ?_)
  refine j_callV (c_cell hA (by omega) hG.1) (sp_findMessage hE hG hT) rfl rfl ?_
  rintro v F' ⟨rfl, ⟨hn, rfl⟩ | ⟨kk, q, hs, hlt, rfl, hm⟩⟩
  · refine (i_astore <| i_aload rfl <| i_null_n ?_)
    refine b_G_message_10 hX _ _ _ _ _ (i_push <| i_end ?_)
    refine b_G_message_44 hX _ _ _ _ _ (i_iret ?_)
    exact ⟨by rw [p_message, hn], f, cs, rfl, ext_r f, hG⟩
  · obtain ⟨mz, mva, mla, m1, m2⟩ := hm
    have hmc := hE.im (cs := cs) _ _ mz m1
    refine (i_astore <| i_aload rfl <| i_null_r ?_)
    refine b_G_message_14 hX _ _ _ _ _ (i_aload rfl <| i_getf hmc rfl <| i_push <| i_aload rfl <| i_getf hmc rfl <| i_bin <| i_bin <| i_push <| i_aload rfl <| i_getf hmc rfl <| i_bin <| i_bin <| i_push <| i_aload rfl <| i_getf hmc rfl <| i_bin <| i_bin <| i_end ?_)
    refine b_G_message_44 hX _ _ _ _ _ (i_iret ?_)
    exact ⟨by rw [p_message, hs], f, cs, rfl, ext_r f, hG⟩
end SPM
