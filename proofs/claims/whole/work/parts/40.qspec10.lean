section QSJ
variable {l : Launch} {D : va_G} {cid : Nat → ClassId} {f : HF} {B : Nat → Nat} {N n i : Nat} {s s' : QS} {S : GS} {o : Option Msg} {M : Msg}
theorem fse_all : ∀ {es : List Ent} {c : Nat}, es.length ≤ 24 → es.length ≤ c → c < 1000 → fse es (nI c) = es
  | [], _, _, _, _ => rfl
  | e :: es, c, h24, h, hc => by
    have h1 : es.length + 1 ≤ c := h
    have h2 : es.length + 1 ≤ 24 := h24
    rw [fse, if_neg (nI_nlt h1 (by omega))]
theorem sp_Q_status {x : Int32} (hB : QI B) (hN : N = 3 ∨ N = 5) (hR : Rel N s S none) : CS l D cid m_Q_status [.ref (B 0), .int x] (hQ f B N s) (PR f B N (p_status N S x) S) := by
  intro X hX
  refine b_Q_status_0 hX _ _ _ _ _ (i_aload rfl <| i_iload rfl <| j_rdV (q_this hB) (sp_Q_isReplica hB) rfl rfl <| i_ifb ?_ ?_)
  · intro hb
    refine b_Q_status_17 hX _ _ _ _ _ (i_push <| i_end ?_)
    refine b_Q_status_18 hX _ _ _ _ _ (i_iret ?_)
    exact ⟨by rw [p_status, if_neg (by rw [hb]; decide)], s, rfl, hR⟩
  · intro hb
    obtain ⟨i, hi, rfl⟩ := isR_t (by omega) hb
    have hcl : (nI i).toNatClampNeg = i := nI_clamp (by omega)
    obtain ⟨a1, a2, a3, a4, a5, a6⟩ := hR.2.2.2.1 i hi
    refine b_Q_status_8 hX _ _ _ _ _ (i_aload rfl <| q_getf hB rfl <| i_iload rfl <| q_ald (c := i) hB (by first | rfl | simp only [nn_1, nn_5, nn_6, nn_24, nn_64, nn_69, nn_70, nn_320, nn_1656, nI_mul, nI_add]) (by show _ < 5; omega) <| i_end ?_)
    refine b_Q_status_18 hX _ _ _ _ _ (i_iret ?_)
    exact ⟨by rw [p_status, if_pos hb, rp, hcl, a1], s, rfl, hR⟩
theorem sp_Q_view {x : Int32} (hB : QI B) (hN : N = 3 ∨ N = 5) (hR : Rel N s S none) : CS l D cid m_Q_view [.ref (B 0), .int x] (hQ f B N s) (PR f B N (p_view N S x) S) := by
  intro X hX
  refine b_Q_view_0 hX _ _ _ _ _ (i_aload rfl <| i_iload rfl <| j_rdV (q_this hB) (sp_Q_isReplica hB) rfl rfl <| i_ifb ?_ ?_)
  · intro hb
    refine b_Q_view_17 hX _ _ _ _ _ (i_push <| i_end ?_)
    refine b_Q_view_18 hX _ _ _ _ _ (i_iret ?_)
    exact ⟨by rw [p_view, if_neg (by rw [hb]; decide)], s, rfl, hR⟩
  · intro hb
    obtain ⟨i, hi, rfl⟩ := isR_t (by omega) hb
    have hcl : (nI i).toNatClampNeg = i := nI_clamp (by omega)
    obtain ⟨a1, a2, a3, a4, a5, a6⟩ := hR.2.2.2.1 i hi
    refine b_Q_view_8 hX _ _ _ _ _ (i_aload rfl <| q_getf hB rfl <| i_iload rfl <| q_ald (c := i) hB (by first | rfl | simp only [nn_1, nn_5, nn_6, nn_24, nn_64, nn_69, nn_70, nn_320, nn_1656, nI_mul, nI_add]) (by show _ < 5; omega) <| i_end ?_)
    refine b_Q_view_18 hX _ _ _ _ _ (i_iret ?_)
    exact ⟨by rw [p_view, if_pos hb, rp, hcl, a2], s, rfl, hR⟩
theorem sp_Q_commit {x : Int32} (hB : QI B) (hN : N = 3 ∨ N = 5) (hR : Rel N s S none) : CS l D cid m_Q_commit [.ref (B 0), .int x] (hQ f B N s) (PR f B N (p_commit N S x) S) := by
  intro X hX
  refine b_Q_commit_0 hX _ _ _ _ _ (i_aload rfl <| i_iload rfl <| j_rdV (q_this hB) (sp_Q_isReplica hB) rfl rfl <| i_ifb ?_ ?_)
  · intro hb
    refine b_Q_commit_17 hX _ _ _ _ _ (i_push <| i_end ?_)
    refine b_Q_commit_18 hX _ _ _ _ _ (i_iret ?_)
    exact ⟨by rw [p_commit, if_neg (by rw [hb]; decide)], s, rfl, hR⟩
  · intro hb
    obtain ⟨i, hi, rfl⟩ := isR_t (by omega) hb
    have hcl : (nI i).toNatClampNeg = i := nI_clamp (by omega)
    obtain ⟨a1, a2, a3, a4, a5, a6⟩ := hR.2.2.2.1 i hi
    refine b_Q_commit_8 hX _ _ _ _ _ (i_aload rfl <| q_getf hB rfl <| i_iload rfl <| q_ald (c := i) hB (by first | rfl | simp only [nn_1, nn_5, nn_6, nn_24, nn_64, nn_69, nn_70, nn_320, nn_1656, nI_mul, nI_add]) (by show _ < 5; omega) <| i_end ?_)
    refine b_Q_commit_18 hX _ _ _ _ _ (i_iret ?_)
    exact ⟨by rw [p_commit, if_pos hb, rp, hcl, a4], s, rfl, hR⟩
theorem sp_Q_length {x : Int32} (hB : QI B) (hN : N = 3 ∨ N = 5) (hR : Rel N s S none) : CS l D cid m_Q_length [.ref (B 0), .int x] (hQ f B N s) (PR f B N (p_length N S x) S) := by
  intro X hX
  refine b_Q_length_0 hX _ _ _ _ _ (i_aload rfl <| i_iload rfl <| j_rdV (q_this hB) (sp_Q_isReplica hB) rfl rfl <| i_ifb ?_ ?_)
  · intro hb
    refine b_Q_length_17 hX _ _ _ _ _ (i_push <| i_end ?_)
    refine b_Q_length_18 hX _ _ _ _ _ (i_iret ?_)
    exact ⟨by rw [p_length, if_neg (by rw [hb]; decide)], s, rfl, hR⟩
  · intro hb
    obtain ⟨i, hi, rfl⟩ := isR_t (by omega) hb
    have hcl : (nI i).toNatClampNeg = i := nI_clamp (by omega)
    obtain ⟨a1, a2, a3, a4, a5, a6⟩ := hR.2.2.2.1 i hi
    refine b_Q_length_8 hX _ _ _ _ _ (i_aload rfl <| q_getf hB rfl <| i_iload rfl <| q_ald (c := i) hB (by first | rfl | simp only [nn_1, nn_5, nn_6, nn_24, nn_64, nn_69, nn_70, nn_320, nn_1656, nI_mul, nI_add]) (by show _ < 95; omega) <| i_end ?_)
    refine b_Q_length_18 hX _ _ _ _ _ (i_iret ?_)
    exact ⟨by rw [p_length, if_pos hb, rp, hcl, a5.1], s, rfl, hR⟩
theorem sp_Q_sent (hB : QI B) (hR : Rel N s S none) : CS l D cid m_Q_sent [.ref (B 0)] (hQ f B N s) (PR f B N (nI (gT S)) S) := by
  intro X hX
  refine b_Q_sent_0 hX _ _ _ _ _ (i_aload rfl <| q_getf hB rfl <| i_iret ?_)
  exact ⟨by rw [hR.1], s, rfl, hR⟩
theorem cl_3 (c : Int32) : (3 < c) ↔ ¬ c < 4 := by
  rw [Int32.lt_iff_toInt_lt, Int32.lt_iff_toInt_lt, show (3 : Int32).toInt = 3 from by decide, show (4 : Int32).toInt = 4 from by decide]
  omega
theorem sp_Q_answered {x : Int32} (hB : QI B) (hR : Rel N s S none) : CS l D cid m_Q_answered [.ref (B 0), .int x] (hQ f B N s) (PR f B N (p_answered S x) S) := by
  intro X hX
  have h18 : isCl x = false → ∀ bc bs, FR l D cid m_Q_answered X 18 [some (.ref (B 0)), some (.int x)] [] (hQ f B N s) bc bs := by
    intro hb bc bs
    refine b_Q_answered_18 hX _ _ _ _ _ (i_push <| i_end ?_)
    refine b_Q_answered_19 hX _ _ _ _ _ (i_iret ?_)
    exact ⟨by rw [p_answered, if_neg (by rw [hb]; decide)], s, rfl, hR⟩
  refine b_Q_answered_0 hX _ _ _ _ _ (i_iload rfl <| i_if ?_ ?_)
  · intro h
    exact h18 (decide_eq_false (fun q => q.1 h)) _ _
  · intro h
    refine b_Q_answered_4 hX _ _ _ _ _ (i_iload rfl <| i_push <| i_cmp ?_ ?_)
    · intro h'
      exact h18 (decide_eq_false (fun q => Int32.not_lt.mpr h' q.2)) _ _
    · intro h'
      have hb : isCl x = true := decide_eq_true ⟨h, Int32.not_le.mp h'⟩
      obtain ⟨c, hc, rfl⟩ := isCl_t hb
      have hcl : (nI c).toNatClampNeg = c := nI_clamp (by omega)
      refine b_Q_answered_9 hX _ _ _ _ _ (i_aload rfl <| q_getf hB rfl <| i_iload rfl <| q_ald (c := c) hB (by first | rfl | simp only [nn_1, nn_5, nn_6, nn_24, nn_64, nn_69, nn_70, nn_320, nn_1656, nI_mul, nI_add]) (by show _ < 4; omega) <| i_end ?_)
      refine b_Q_answered_19 hX _ _ _ _ _ (i_iret ?_)
      exact ⟨by rw [p_answered, if_pos hb, hcl, (hR.2.2.1 c hc).1], s, rfl, hR⟩
theorem sp_Q_answer {x : Int32} (hB : QI B) (hR : Rel N s S none) : CS l D cid m_Q_answer [.ref (B 0), .int x] (hQ f B N s) (PR f B N (p_answer S x) S) := by
  intro X hX
  have h18 : isCl x = false → ∀ bc bs, FR l D cid m_Q_answer X 18 [some (.ref (B 0)), some (.int x)] [] (hQ f B N s) bc bs := by
    intro hb bc bs
    refine b_Q_answer_18 hX _ _ _ _ _ (i_push <| i_end ?_)
    refine b_Q_answer_19 hX _ _ _ _ _ (i_iret ?_)
    exact ⟨by rw [p_answer, if_neg (by rw [hb]; decide)], s, rfl, hR⟩
  refine b_Q_answer_0 hX _ _ _ _ _ (i_iload rfl <| i_if ?_ ?_)
  · intro h
    exact h18 (decide_eq_false (fun q => q.1 h)) _ _
  · intro h
    refine b_Q_answer_4 hX _ _ _ _ _ (i_iload rfl <| i_push <| i_cmp ?_ ?_)
    · intro h'
      exact h18 (decide_eq_false (fun q => Int32.not_lt.mpr h' q.2)) _ _
    · intro h'
      have hb : isCl x = true := decide_eq_true ⟨h, Int32.not_le.mp h'⟩
      obtain ⟨c, hc, rfl⟩ := isCl_t hb
      have hcl : (nI c).toNatClampNeg = c := nI_clamp (by omega)
      refine b_Q_answer_9 hX _ _ _ _ _ (i_aload rfl <| q_getf hB rfl <| i_iload rfl <| q_ald (c := c) hB (by first | rfl | simp only [nn_1, nn_5, nn_6, nn_24, nn_64, nn_69, nn_70, nn_320, nn_1656, nI_mul, nI_add]) (by show _ < 4; omega) <| i_end ?_)
      refine b_Q_answer_19 hX _ _ _ _ _ (i_iret ?_)
      exact ⟨by rw [p_answer, if_pos hb, hcl, (hR.2.2.1 c hc).2], s, rfl, hR⟩
theorem sp_Q_vector {x y : Int32} (hB : QI B) (hN : N = 3 ∨ N = 5) (hR : Rel N s S none) : CS l D cid m_Q_vector [.ref (B 0), .int x, .int y] (hQ f B N s) (PR f B N (p_vector N S x y) S) := by
  intro X hX
  have h29 : ¬ (isR N x = true ∧ isR N y = true) → ∀ bc bs, FR l D cid m_Q_vector X 29 [some (.ref (B 0)), some (.int x), some (.int y)] [] (hQ f B N s) bc bs := by
    intro hc bc bs
    refine b_Q_vector_29 hX _ _ _ _ _ (i_push <| i_end ?_)
    refine b_Q_vector_30 hX _ _ _ _ _ (i_iret ?_)
    exact ⟨by rw [p_vector, if_neg hc], s, rfl, hR⟩
  refine b_Q_vector_0 hX _ _ _ _ _ (i_aload rfl <| i_iload rfl <| j_rdV (q_this hB) (sp_Q_isReplica hB) rfl rfl <| i_ifb ?_ ?_)
  · intro hb
    exact h29 (fun q => by rw [hb] at q; exact absurd q.1 (by decide)) _ _
  · intro hb
    refine b_Q_vector_8 hX _ _ _ _ _ (i_aload rfl <| i_iload rfl <| j_rdV (q_this hB) (sp_Q_isReplica hB) rfl rfl <| i_ifb ?_ ?_)
    · intro hb'
      exact h29 (fun q => by rw [hb'] at q; exact absurd q.2 (by decide)) _ _
    · intro hb'
      have hbb : isR N x = true ∧ isR N y = true := ⟨hb, hb'⟩
      obtain ⟨i, hi, rfl⟩ := isR_t (by omega) hb
      obtain ⟨j, hj, rfl⟩ := isR_t (by omega) hb'
      have hcl : (nI i).toNatClampNeg = i := nI_clamp (by omega)
      have hcl' : (nI j).toNatClampNeg = j := nI_clamp (by omega)
      refine b_Q_vector_16 hX _ _ _ _ _ (i_aload rfl <| q_getf hB rfl <| i_push <| i_iload rfl <| i_bin <| i_iload rfl <| i_bin <| q_ald (c := 5 * i + j) hB (by first | rfl | simp only [nn_1, nn_5, nn_6, nn_24, nn_64, nn_69, nn_70, nn_320, nn_1656, nI_mul, nI_add]) (by show _ < 25; omega) <| i_end ?_)
      refine b_Q_vector_30 hX _ _ _ _ _ (i_iret ?_)
      exact ⟨by rw [p_vector, if_pos hbb, rp, hcl, hcl', (hR.2.2.2.1 i hi).2.2.2.2.2.1 j hj], s, rfl, hR⟩
theorem sp_Q_total {x : Int32} (hB : QI B) (hN : N = 3 ∨ N = 5) (hR : Rel N s S none) (hI : Inv N n S) : CS l D cid m_Q_total [.ref (B 0), .int x] (hQ f B N s) (PR f B N (p_total N S x) S) := by
  intro X hX
  refine b_Q_total_0 hX _ _ _ _ _ (i_aload rfl <| i_iload rfl <| j_rdV (q_this hB) (sp_Q_isReplica hB) rfl rfl <| i_ifb ?_ ?_)
  · intro hb
    refine b_Q_total_22 hX _ _ _ _ _ (i_push <| i_end ?_)
    refine b_Q_total_23 hX _ _ _ _ _ (i_iret ?_)
    exact ⟨by rw [p_total, if_neg (by rw [hb]; decide)], s, rfl, hR⟩
  · intro hb
    obtain ⟨i, hi, rfl⟩ := isR_t (by omega) hb
    have hcl : (nI i).toNatClampNeg = i := nI_clamp (by omega)
    obtain ⟨a1, a2, a3, a4, a5, a6⟩ := hR.2.2.2.1 i hi
    obtain ⟨c, hc, ec⟩ := (hI.1 i hi).2.2.2.2.1
    have hlen := a5.2.1
    refine b_Q_total_8 hX _ _ _ _ _ (i_aload rfl <| i_iload rfl <| i_aload rfl <| q_getf hB rfl <| i_iload rfl <| q_ald (c := i) hB (by first | rfl | simp only [nn_1, nn_5, nn_6, nn_24, nn_64, nn_69, nn_70, nn_320, nn_1656, nI_mul, nI_add]) (by show _ < 5; omega) <| ?_)
    rw [a4, ec]
    refine j_rdV (q_this hB) (sp_Q_sum (k := c) hB (by omega) a5.1 hlen (by omega)) rfl rfl ?_
    refine (i_end ?_)
    refine b_Q_total_23 hX _ _ _ _ _ (i_iret ?_)
    refine ⟨?_, s, rfl, hR⟩
    rw [p_total, if_pos hb, rp, hcl, ec]
    rcases Nat.lt_or_ge (rG (gR S i)).length c with h | h
    · rw [show min c (rG (gR S i)).length = (rG (gR S i)).length by omega, fse_all hlen (by omega) (by omega), sum_tot a5.2.2]
    · rw [show min c (rG (gR S i)).length = c by omega, sum_fse a5 h]
theorem sp_Q_message {k : Int32} (hB : QI B) (hR : Rel N s S none) (hT : gT S < 2 ^ 28) : CS l D cid m_Q_message [.ref (B 0), .int k] (hQ f B N s) (PR f B N (p_message S k) S) := by
  intro X hX
  refine b_Q_message_0 hX _ _ _ _ _ (i_aload rfl <| i_iload rfl <| j_rdV (q_this hB) (sp_Q_there hB hR hT) rfl rfl <| i_ifbn ?_ ?_)
  · intro hb
    obtain ⟨kk, hs⟩ := Option.isSome_iff_exists.mp hb
    obtain ⟨h1, h2, rfl⟩ := fms_s hs
    obtain ⟨⟨c1, c2, c3, c4⟩, m2⟩ := hR.2.2.2.2.1 kk h1 h2
    have hmk : nI kk &&& 63 = nI (kk % 64) := pk_andN (by omega) 6 (by decide)
    have hlt : kk % 64 < 64 := Nat.mod_lt _ (by decide)
    refine b_Q_message_10 hX _ _ _ _ _ (i_iload rfl <| i_push <| i_bin <| i_istore <| i_aload rfl <| q_getf hB rfl <| i_iload rfl <| q_ald (c := kk % 64) hB (hmk) (by show _ < 65; omega) <| i_push <| i_aload rfl <| q_getf hB rfl <| i_iload rfl <| q_ald (c := kk % 64) hB (hmk) (by show _ < 65; omega) <| i_bin <| i_bin <| i_push <| i_aload rfl <| q_getf hB rfl <| i_iload rfl <| q_ald (c := kk % 64) hB (hmk) (by show _ < 65; omega) <| i_bin <| i_bin <| i_push <| i_aload rfl <| q_getf hB rfl <| i_iload rfl <| q_ald (c := kk % 64) hB (hmk) (by show _ < 65; omega) <| i_bin <| i_bin <| i_iret ?_)
    exact ⟨by rw [p_message, hs, c1, c2, c3, m2], s, rfl, hR⟩
  · intro hb
    have hnn : fms S k = none := by
      cases h : fms S k with
      | none => rfl
      | some kk => rw [h] at hb; cases hb
    refine b_Q_message_8 hX _ _ _ _ _ (i_push <| i_iret ?_)
    exact ⟨by rw [p_message, hnn], s, rfl, hR⟩
theorem sp_Q_entry {x k : Int32} (hB : QI B) (hN : N = 3 ∨ N = 5) (hR : Rel N s S none) : CS l D cid m_Q_entry [.ref (B 0), .int x, .int k] (hQ f B N s) (PR f B N (p_entry N S x k) S) := by
  intro X hX
  have h36 : hasE N S x k = false → ∀ bc bs, FR l D cid m_Q_entry X 36 [some (.ref (B 0)), some (.int x), some (.int k)] [] (hQ f B N s) bc bs := by
    intro hb bc bs
    refine b_Q_entry_36 hX _ _ _ _ _ (i_push <| i_end ?_)
    refine b_Q_entry_37 hX _ _ _ _ _ (i_iret ?_)
    exact ⟨by rw [p_entry, if_neg (by rw [hb]; decide)], s, rfl, hR⟩
  refine b_Q_entry_0 hX _ _ _ _ _ (i_aload rfl <| i_iload rfl <| j_rdV (q_this hB) (sp_Q_isReplica hB) rfl rfl <| i_ifb ?_ ?_)
  · intro hb
    exact h36 (decide_eq_false (fun q => by rw [hb] at q; exact absurd q.1 (by decide))) _ _
  · intro hb
    refine b_Q_entry_8 hX _ _ _ _ _ (i_iload rfl <| i_if ?_ ?_)
    · intro h
      exact h36 (decide_eq_false (fun q => q.2.1 h)) _ _
    · intro h
      obtain ⟨i, hi, rfl⟩ := isR_t (by omega) hb
      have hcl : (nI i).toNatClampNeg = i := nI_clamp (by omega)
      have a5 := (hR.2.2.2.1 i hi).2.2.2.2.1
      have hlen := a5.2.1
      obtain ⟨kk, hkk, rfl⟩ := nI_of h
      refine b_Q_entry_12 hX _ _ _ _ _ (i_iload rfl <| i_aload rfl <| q_getf hB rfl <| i_iload rfl <| q_ald (c := i) hB (by first | rfl | simp only [nn_1, nn_5, nn_6, nn_24, nn_64, nn_69, nn_70, nn_320, nn_1656, nI_mul, nI_add]) (by show _ < 95; omega) <| i_cmp ?_ ?_)
      · intro h'
        rw [a5.1] at h'
        refine h36 (decide_eq_false (fun q => ?_)) _ _
        rw [rp, hcl] at q
        exact Int32.not_lt.mpr h' q.2.2
      · intro h'
        rw [a5.1] at h'
        have hlt : kk < (rG (gR S i)).length := (nI_ltI hkk (by omega)).mp (Int32.not_le.mp h')
        have hb2 : hasE N S (nI i) (nI kk) = true := decide_eq_true ⟨hb, h, by rw [rp, hcl]; exact Int32.not_le.mp h'⟩
        refine b_Q_entry_22 hX _ _ _ _ _ (i_aload rfl <| q_getf hB rfl <| i_push <| i_iload rfl <| i_bin <| i_iload rfl <| i_bin <| q_ald (c := 24 * i + kk) hB (by first | rfl | simp only [nn_1, nn_5, nn_6, nn_24, nn_64, nn_69, nn_70, nn_320, nn_1656, nI_mul, nI_add]) (by show _ < 2280; omega) <| i_end ?_)
        refine b_Q_entry_37 hX _ _ _ _ _ (i_iret ?_)
        exact ⟨by rw [p_entry, if_pos hb2, rp, hcl, ← nI_succ, (hd_fse a5 hlt).2.2], s, rfl, hR⟩
theorem sp_Q_origin {x k : Int32} (hB : QI B) (hN : N = 3 ∨ N = 5) (hR : Rel N s S none) : CS l D cid m_Q_origin [.ref (B 0), .int x, .int k] (hQ f B N s) (PR f B N (p_origin N S x k) S) := by
  intro X hX
  have h50 : hasE N S x k = false → ∀ bc bs, FR l D cid m_Q_origin X 50 [some (.ref (B 0)), some (.int x), some (.int k)] [] (hQ f B N s) bc bs := by
    intro hb bc bs
    refine b_Q_origin_50 hX _ _ _ _ _ (i_push <| i_end ?_)
    refine b_Q_origin_51 hX _ _ _ _ _ (i_iret ?_)
    exact ⟨by rw [p_origin, if_neg (by rw [hb]; decide)], s, rfl, hR⟩
  refine b_Q_origin_0 hX _ _ _ _ _ (i_aload rfl <| i_iload rfl <| j_rdV (q_this hB) (sp_Q_isReplica hB) rfl rfl <| i_ifb ?_ ?_)
  · intro hb
    exact h50 (decide_eq_false (fun q => by rw [hb] at q; exact absurd q.1 (by decide))) _ _
  · intro hb
    refine b_Q_origin_8 hX _ _ _ _ _ (i_iload rfl <| i_if ?_ ?_)
    · intro h
      exact h50 (decide_eq_false (fun q => q.2.1 h)) _ _
    · intro h
      obtain ⟨i, hi, rfl⟩ := isR_t (by omega) hb
      have hcl : (nI i).toNatClampNeg = i := nI_clamp (by omega)
      have a5 := (hR.2.2.2.1 i hi).2.2.2.2.1
      have hlen := a5.2.1
      obtain ⟨kk, hkk, rfl⟩ := nI_of h
      refine b_Q_origin_12 hX _ _ _ _ _ (i_iload rfl <| i_aload rfl <| q_getf hB rfl <| i_iload rfl <| q_ald (c := i) hB (by first | rfl | simp only [nn_1, nn_5, nn_6, nn_24, nn_64, nn_69, nn_70, nn_320, nn_1656, nI_mul, nI_add]) (by show _ < 95; omega) <| i_cmp ?_ ?_)
      · intro h'
        rw [a5.1] at h'
        refine h50 (decide_eq_false (fun q => ?_)) _ _
        rw [rp, hcl] at q
        exact Int32.not_lt.mpr h' q.2.2
      · intro h'
        rw [a5.1] at h'
        have hlt : kk < (rG (gR S i)).length := (nI_ltI hkk (by omega)).mp (Int32.not_le.mp h')
        have hb2 : hasE N S (nI i) (nI kk) = true := decide_eq_true ⟨hb, h, by rw [rp, hcl]; exact Int32.not_le.mp h'⟩
        refine b_Q_origin_22 hX _ _ _ _ _ (i_push <| i_aload rfl <| q_getf hB rfl <| i_push <| i_iload rfl <| i_bin <| i_iload rfl <| i_bin <| q_ald (c := 24 * i + kk) hB (by first | rfl | simp only [nn_1, nn_5, nn_6, nn_24, nn_64, nn_69, nn_70, nn_320, nn_1656, nI_mul, nI_add]) (by show _ < 2280; omega) <| i_bin <| i_aload rfl <| q_getf hB rfl <| i_push <| i_iload rfl <| i_bin <| i_iload rfl <| i_bin <| q_ald (c := 24 * i + kk) hB (by first | rfl | simp only [nn_1, nn_5, nn_6, nn_24, nn_64, nn_69, nn_70, nn_320, nn_1656, nI_mul, nI_add]) (by show _ < 2280; omega) <| i_bin <| i_end ?_)
        refine b_Q_origin_51 hX _ _ _ _ _ (i_iret ?_)
        exact ⟨by rw [p_origin, if_pos hb2, rp, hcl, ← nI_succ, (hd_fse a5 hlt).2.1, (hd_fse a5 hlt).1, Int32.mul_comm], s, rfl, hR⟩
theorem sp_Q_remind {x : Int32} (hB : QI B) (hN : N = 3 ∨ N = 5) (hR : Rel N s S none) (hI : Inv N n S) (hn : n < 2 ^ 30) (hT : gT S < 2 ^ 28) : CS l D cid m_Q_remind [.ref (B 0), .int x] (hQ f B N s) (PR f B N (p_remind N S x).1 (p_remind N S x).2) := by
  intro X hX
  have h16 : ¬ (isR N x = true ∧ leads N (rp S x) x.toNatClampNeg) → ∀ bc bs, FR l D cid m_Q_remind X 16 [some (.ref (B 0)), some (.int x)] [] (hQ f B N s) bc bs := by
    intro hc bc bs
    refine b_Q_remind_16 hX _ _ _ _ _ (i_push <| i_zret ?_)
    have e : p_remind N S x = (0, S) := by rw [p_remind, if_neg hc]
    rw [e]
    exact ⟨rfl, s, rfl, hR⟩
  refine b_Q_remind_0 hX _ _ _ _ _ (i_aload rfl <| i_iload rfl <| j_rdV (q_this hB) (sp_Q_isReplica hB) rfl rfl <| i_ifb ?_ ?_)
  · intro hb
    exact h16 (fun q => by rw [hb] at q; exact absurd q.1 (by decide)) _ _
  · intro hb
    obtain ⟨i, hi, rfl⟩ := isR_t (by omega) hb
    have hcl : (nI i).toNatClampNeg = i := nI_clamp (by omega)
    obtain ⟨a1, a2, a3⟩ := hR.2.2.2.1 i hi
    obtain ⟨vr, hvr, hvre⟩ := (hI.1 i hi).2.1
    refine b_Q_remind_8 hX _ _ _ _ _ (i_aload rfl <| i_iload rfl <| j_rdV (q_this hB) (sp_Q_leads (v := vr) hB hN (by omega) a1 a2 hvre (by omega)) rfl rfl <| i_ifbn ?_ ?_)
    · intro hl
      refine b_Q_remind_18 hX _ _ _ _ _ (i_aload rfl <| i_iload rfl <| i_push <| ?_)
      refine j_callV (q_this hB) (sp_Q_sendAll (what := 1) hB hN hi hR (by omega)) rfl rfl ?_
      rintro w F' ⟨rfl, s9, rfl, h9⟩
      refine (i_push <| i_zret ?_)
      have e : p_remind N S (nI i) = (1, g_all S i 1 N) := by
        rw [p_remind, rp, hcl, if_pos ⟨hb, of_decide_eq_true hl⟩]
      rw [e]
      exact ⟨rfl, s9, rfl, h9⟩
    · intro hl
      refine h16 (fun q => ?_) _ _
      rw [rp, hcl] at q
      exact of_decide_eq_false hl q.2
theorem st_1 {x : Int32} (h : ∃ k : Nat, k ≤ 3 ∧ x = nI k) : (x ≤ 1 ↔ (x = 0 ∨ x = 1)) ∧ (x < 2 ↔ ¬ (x = 3 ∨ x = 2)) := by
  obtain ⟨k, hk, rfl⟩ := h
  rcases k with _ | _ | _ | _ | k
  · decide
  · decide
  · decide
  · decide
  · omega
theorem sp_Q_suspect {x : Int32} (hB : QI B) (hN : N = 3 ∨ N = 5) (hR : Rel N s S none) (hI : Inv N n S) (hT : gT S < 2 ^ 28) : CS l D cid m_Q_suspect [.ref (B 0), .int x] (hQ f B N s) (PR f B N (p_suspect N S x).1 (p_suspect N S x).2) := by
  intro X hX
  have h18 : ¬ (isR N x = true ∧ (rS (rp S x) = 0 ∨ rS (rp S x) = 1)) → ∀ bc bs, FR l D cid m_Q_suspect X 18 [some (.ref (B 0)), some (.int x)] [] (hQ f B N s) bc bs := by
    intro hc bc bs
    refine b_Q_suspect_18 hX _ _ _ _ _ (i_push <| i_zret ?_)
    have e : p_suspect N S x = (0, S) := by rw [p_suspect, if_neg hc]
    rw [e]
    exact ⟨rfl, s, rfl, hR⟩
  refine b_Q_suspect_0 hX _ _ _ _ _ (i_aload rfl <| i_iload rfl <| j_rdV (q_this hB) (sp_Q_isReplica hB) rfl rfl <| i_ifb ?_ ?_)
  · intro hb
    exact h18 (fun q => by rw [hb] at q; exact absurd q.1 (by decide)) _ _
  · intro hb
    obtain ⟨i, hi, rfl⟩ := isR_t (by omega) hb
    have hcl : (nI i).toNatClampNeg = i := nI_clamp (by omega)
    obtain ⟨a1, a2, a3⟩ := hR.2.2.2.1 i hi
    have hst := (st_1 (hI.1 i hi).1).1
    refine b_Q_suspect_8 hX _ _ _ _ _ (i_aload rfl <| q_getf hB rfl <| i_iload rfl <| q_ald (c := i) hB (by first | rfl | simp only [nn_1, nn_5, nn_6, nn_24, nn_64, nn_69, nn_70, nn_320, nn_1656, nI_mul, nI_add]) (by show _ < 5; omega) <| i_push <| i_cmp ?_ ?_)
    · intro h
      rw [a1] at h
      refine b_Q_suspect_20 hX _ _ _ _ _ (i_aload rfl <| i_iload rfl <| i_aload rfl <| q_getf hB rfl <| i_iload rfl <| q_ald (c := i) hB (by first | rfl | simp only [nn_1, nn_5, nn_6, nn_24, nn_64, nn_69, nn_70, nn_320, nn_1656, nI_mul, nI_add]) (by show _ < 5; omega) <| i_push <| i_bin <| ?_)
      rw [a2]
      refine j_callV (q_this hB) (sp_Q_start (v := rV (gR S i) + 1) hB hN hi hR (by omega)) rfl rfl ?_
      rintro w F' ⟨rfl, s9, rfl, h9⟩
      refine (i_push <| i_zret ?_)
      have e : p_suspect N S (nI i) = (1, g_start N S i (rV (gR S i) + 1)) := by
        rw [p_suspect, rp, hcl, if_pos ⟨hb, hst.mp h⟩]
      rw [e]
      exact ⟨rfl, s9, rfl, h9⟩
    · intro h
      rw [a1] at h
      refine h18 (fun q => ?_) _ _
      rw [rp, hcl] at q
      exact h (hst.mpr q.2)
theorem fresh_a (s : QS) (r j x : Nat) : (q_fresh s r).1 j x = if (j = 14 ∨ j = 16) ∧ 5 * r ≤ x ∧ x < 5 * r + 5 then 0 else if (j = 10 ∨ j = 11) ∧ 5 * r ≤ x ∧ x < 5 * r + 5 then 0 else if j = 12 ∧ x = r then 0 else if j = 9 ∧ x = r then 0 else if j = 2 ∧ x = r then 0 else if j = 8 ∧ x = r then 0 else if j = 7 ∧ x = r then 0 else s.1 j x := by
  simp only [q_fresh, fg_a, vz_a, qw_a]
theorem rel_crash (hN : N ≤ 5) (hi : i < N) (h : Rel N s S o) : Rel N (qw (q_fresh s i) 6 i 3) (g_rep S i (3, (r_fresh (gR S i)).2)) o := by
  obtain ⟨a1, a2, a3, a4, a5, a6, a7, a8, a9, a10⟩ := h.2.2.2.1 i hi
  have rd : ∀ j x, ¬ (j = 6 ∧ x = i) → (qw (q_fresh s i) 6 i 3).1 j x = (q_fresh s i).1 j x := fun j x hh => by rw [qw_a, if_neg hh]
  refine rel_new hN hi h rfl (fun j y hy => ?_) ?_ ?_ ?_ ?_ ⟨?_, Nat.zero_le _, trivial⟩ (fun t ht => ?_) (fun t ht => ?_) ?_ ?_ (fun t ht => ?_) (fun t ht => ?_) rfl rfl
  · unfold inR at hy
    rw [rd j y (by omega), fresh_a, if_neg (by omega), if_neg (by omega), if_neg (by omega), if_neg (by omega), if_neg (by omega), if_neg (by omega), if_neg (by omega)]
  · rw [qw_a, if_pos ⟨rfl, rfl⟩]
  · rw [rd 7 i (by omega), fresh_a, if_neg (by omega), if_neg (by omega), if_neg (by omega), if_neg (by omega), if_neg (by omega), if_neg (by omega), if_pos (by omega)]
    rfl
  · rw [rd 8 i (by omega), fresh_a, if_neg (by omega), if_neg (by omega), if_neg (by omega), if_neg (by omega), if_neg (by omega), if_pos (by omega)]
    rfl
  · rw [rd 9 i (by omega), fresh_a, if_neg (by omega), if_neg (by omega), if_neg (by omega), if_pos (by omega)]
    rfl
  · rw [rd 2 i (by omega), fresh_a, if_neg (by omega), if_neg (by omega), if_neg (by omega), if_neg (by omega), if_pos (by omega)]
    rfl
  · rw [rd 10 _ (by omega), fresh_a, if_neg (by omega), if_pos (by omega)]
    rfl
  · rw [rd 11 _ (by omega), fresh_a, if_neg (by omega), if_pos (by omega)]
    rfl
  · rw [rd 12 _ (by omega), fresh_a, if_neg (by omega), if_neg (by omega), if_pos (by omega)]
    rfl
  · rw [rd 13 _ (by omega), fresh_a, if_neg (by omega), if_neg (by omega), if_neg (by omega), if_neg (by omega), if_neg (by omega), if_neg (by omega), if_neg (by omega)]
    exact a9
  · rw [rd 14 _ (by omega), fresh_a, if_pos (by omega)]
  · rw [rd 16 _ (by omega), fresh_a, if_pos (by omega)]
theorem sp_Q_crash {x : Int32} (hB : QI B) (hN : N = 3 ∨ N = 5) (hR : Rel N s S none) (hI : Inv N n S) : CS l D cid m_Q_crash [.ref (B 0), .int x] (hQ f B N s) (PR f B N (p_crash N S x).1 (p_crash N S x).2) := by
  intro X hX
  have h18 : ¬ (isR N x = true ∧ ¬ rS (rp S x) = 3 ∧ olo S x.toNatClampNeg N < nI (N / 2)) → ∀ x2 x3 bc bs, FR l D cid m_Q_crash X 18 [some (.ref (B 0)), some (.int x), x2, x3] [] (hQ f B N s) bc bs := by
    intro hc x2 x3 bc bs
    refine b_Q_crash_18 hX _ _ _ _ _ (i_push <| i_zret ?_)
    have e : p_crash N S x = (0, S) := by rw [p_crash, if_neg hc]
    rw [e]
    exact ⟨rfl, s, rfl, hR⟩
  refine b_Q_crash_0 hX _ _ _ _ _ (i_aload rfl <| i_iload rfl <| j_rdV (q_this hB) (sp_Q_isReplica hB) rfl rfl <| i_ifb ?_ ?_)
  · intro hb
    exact h18 (fun q => by rw [hb] at q; exact absurd q.1 (by decide)) _ _ _ _
  · intro hb
    obtain ⟨i, hi, rfl⟩ := isR_t (by omega) hb
    have hcl : (nI i).toNatClampNeg = i := nI_clamp (by omega)
    have a1 := (hR.2.2.2.1 i hi).1
    have loop : ¬ rS (gR S i) = 3 → ∀ t, t ≤ N → ∀ bc bs, FR l D cid m_Q_crash X 24 [some (.ref (B 0)), some (.int (nI i)), some (.int (olo S i t)), some (.int (nI t))] [] (hQ f B N s) bc bs := by
      intro h3
      refine up_to ?_ ?_
      · intro bc bs
        refine b_Q_crash_24 hX _ _ _ _ _ (i_iload rfl <| i_aload rfl <| q_getf hB rfl <| i_cmp_t (Int32.le_refl _) ?_)
        refine b_Q_crash_61 hX _ _ _ _ _ (i_iload rfl <| i_aload rfl <| q_getf hB rfl <| i_cmp ?_ ?_)
        · intro hlt
          refine b_Q_crash_71 hX _ _ _ _ _ (i_aload rfl <| i_iload rfl <| j_upV (q_this hB) (sp_Q_fresh hB (by omega)) rfl rfl <| i_aload rfl <| q_getf hB rfl <| i_iload rfl <| i_push <| q_ast (c := i) hB (by first | rfl | simp only [nn_1, nn_5, nn_6, nn_24, nn_64, nn_69, nn_70, nn_320, nn_1656, nI_mul, nI_add]) (by show _ < 5; omega) <| i_push <| i_zret ?_)
          have e : p_crash N S (nI i) = (1, g_rep S i (3, (r_fresh (gR S i)).2)) := by
            rw [p_crash, rp, hcl, if_pos ⟨hb, h3, hlt⟩]
          rw [e]
          exact ⟨rfl, _, rfl, rel_crash (by omega) hi hR⟩
        · intro hlt
          refine b_Q_crash_69 hX _ _ _ _ _ (i_push <| i_zret ?_)
          have e : p_crash N S (nI i) = (0, S) := by
            rw [p_crash, rp, hcl, if_neg (fun q => hlt q.2.2)]
          rw [e]
          exact ⟨rfl, s, rfl, hR⟩
      · intro t ht ih bc bs
        simp only [nI_succ] at ih
        have b1 := (hR.2.2.2.1 t ht).1
        have hst := (st_1 (hI.1 t ht).1).2
        have h54 : ∀ (y : Int32) (y2 : Option Value) (bc bs : Nat), y = olo S i (t + 1) → FR l D cid m_Q_crash X 54 [some (.ref (B 0)), some (.int (nI i)), y2, some (.int (nI t))] [.int y] (hQ f B N s) bc bs := by
          intro y y2 bc bs hy
          subst hy
          refine b_Q_crash_54 hX _ _ _ _ _ (i_istore <| i_iinc rfl <| i_end ?_)
          exact ih _ _
        refine b_Q_crash_24 hX _ _ _ _ _ (i_iload rfl <| i_aload rfl <| q_getf hB rfl <| i_cmp_f (nI_ge ht (by omega)) ?_)
        refine b_Q_crash_32 hX _ _ _ _ _ (i_iload rfl <| i_iload rfl <| i_cmp ?_ ?_)
        · intro he
          have he' : t = i := (nI_eq (by omega) (by omega)).mp he
          refine b_Q_crash_53 hX _ _ _ _ _ (i_iload rfl <| i_end ?_)
          refine h54 _ _ _ _ ?_
          rw [olo, if_neg (fun q => q.1 he')]
        · intro he
          have he' : ¬ t = i := fun q => he (congrArg nI q)
          refine b_Q_crash_37 hX _ _ _ _ _ (i_aload rfl <| q_getf hB rfl <| i_iload rfl <| q_ald (c := t) hB (by first | rfl | simp only [nn_1, nn_5, nn_6, nn_24, nn_64, nn_69, nn_70, nn_320, nn_1656, nI_mul, nI_add]) (by show _ < 5; omega) <| i_push <| i_cmp ?_ ?_)
          · intro hlt
            rw [b1] at hlt
            refine b_Q_crash_53 hX _ _ _ _ _ (i_iload rfl <| i_end ?_)
            refine h54 _ _ _ _ ?_
            rw [olo, if_neg (fun q => hst.mp hlt q.2)]
          · intro hlt
            rw [b1] at hlt
            refine b_Q_crash_47 hX _ _ _ _ _ (i_iload rfl <| i_push <| i_bin <| i_end ?_)
            refine h54 _ _ _ _ ?_
            rw [olo, if_pos ⟨he', Classical.byContradiction (fun q => hlt (hst.mpr q))⟩]
    refine b_Q_crash_8 hX _ _ _ _ _ (i_aload rfl <| q_getf hB rfl <| i_iload rfl <| q_ald (c := i) hB (by first | rfl | simp only [nn_1, nn_5, nn_6, nn_24, nn_64, nn_69, nn_70, nn_320, nn_1656, nI_mul, nI_add]) (by show _ < 5; omega) <| i_push <| i_cmp ?_ ?_)
    · intro h3
      rw [a1] at h3
      refine b_Q_crash_20 hX _ _ _ _ _ (i_push <| i_istore <| i_push <| i_istore <| i_end ?_)
      exact loop h3 0 (Nat.zero_le _) _ _
    · intro h3
      have h3' := Classical.not_not.mp h3
      rw [a1] at h3'
      refine h18 (fun q => ?_) _ _ _ _
      rw [rp, hcl] at q
      exact q.2.1 h3'
theorem rel_recov {x : Int32} (hN : N ≤ 5) (hi : i < N) (h : Rel N s S o) : Rel N (qw (qw (q_fresh (qw s 13 i x) i) 6 i 2) 10 (6 * i) x) (g_rep S i (r_recov (gR S i) i x)) o := by
  have rd : ∀ j y, ¬ (j = 6 ∧ y = i) → ¬ (j = 10 ∧ y = 6 * i) → (qw (qw (q_fresh (qw s 13 i x) i) 6 i 2) 10 (6 * i) x).1 j y = (q_fresh (qw s 13 i x) i).1 j y := fun j y h1 h2 => by rw [qw_a, if_neg h2, qw_a, if_neg h1]
  refine rel_new hN hi h rfl (fun j y hy => ?_) ?_ ?_ ?_ ?_ ⟨?_, Nat.zero_le _, trivial⟩ (fun t ht => ?_) (fun t ht => ?_) ?_ ?_ (fun t ht => ?_) (fun t ht => ?_) rfl rfl
  · unfold inR at hy
    rw [rd j y (by omega) (by omega), fresh_a, if_neg (by omega), if_neg (by omega), if_neg (by omega), if_neg (by omega), if_neg (by omega), if_neg (by omega), if_neg (by omega), qw_a, if_neg (by omega)]
  · rw [qw_a, if_neg (by omega), qw_a, if_pos ⟨rfl, rfl⟩]
    rfl
  · rw [rd 7 i (by omega) (by omega), fresh_a, if_neg (by omega), if_neg (by omega), if_neg (by omega), if_neg (by omega), if_neg (by omega), if_neg (by omega), if_pos (by omega)]
    rfl
  · rw [rd 8 i (by omega) (by omega), fresh_a, if_neg (by omega), if_neg (by omega), if_neg (by omega), if_neg (by omega), if_neg (by omega), if_pos (by omega)]
    rfl
  · rw [rd 9 i (by omega) (by omega), fresh_a, if_neg (by omega), if_neg (by omega), if_neg (by omega), if_pos (by omega)]
    rfl
  · rw [rd 2 i (by omega) (by omega), fresh_a, if_neg (by omega), if_neg (by omega), if_neg (by omega), if_neg (by omega), if_pos (by omega)]
    rfl
  · show _ = va_up (fun _ => 0) i x t
    by_cases e : t = i
    · subst e
      rw [va_s, qw_a, if_pos (by omega)]
    · rw [va_n e, rd 10 _ (by omega) (by omega), fresh_a, if_neg (by omega), if_pos (by omega)]
  · rw [rd 11 _ (by omega) (by omega), fresh_a, if_neg (by omega), if_pos (by omega)]
    rfl
  · rw [rd 12 _ (by omega) (by omega), fresh_a, if_neg (by omega), if_neg (by omega), if_pos (by omega)]
    rfl
  · rw [rd 13 _ (by omega) (by omega), fresh_a, if_neg (by omega), if_neg (by omega), if_neg (by omega), if_neg (by omega), if_neg (by omega), if_neg (by omega), if_neg (by omega), qw_a, if_pos ⟨rfl, rfl⟩]
    rfl
  · rw [rd 14 _ (by omega) (by omega), fresh_a, if_pos (by omega)]
  · rw [rd 16 _ (by omega) (by omega), fresh_a, if_pos (by omega)]
theorem sp_Q_recover {x y : Int32} (hB : QI B) (hN : N = 3 ∨ N = 5) (hR : Rel N s S none) (hI : Inv N n S) (hT : gT S < 2 ^ 28) : CS l D cid m_Q_recover [.ref (B 0), .int x, .int y] (hQ f B N s) (PR f B N (p_recover N S x y).1 (p_recover N S x y).2) := by
  intro X hX
  have h28 : ¬ (isR N x = true ∧ (rS (rp S x) = 3 ∨ rS (rp S x) = 2) ∧ rN (rp S x) < y) → ∀ bc bs, FR l D cid m_Q_recover X 28 [some (.ref (B 0)), some (.int x), some (.int y)] [] (hQ f B N s) bc bs := by
    intro hc bc bs
    refine b_Q_recover_28 hX _ _ _ _ _ (i_push <| i_zret ?_)
    have e : p_recover N S x y = (0, S) := by rw [p_recover, if_neg hc]
    rw [e]
    exact ⟨rfl, s, rfl, hR⟩
  refine b_Q_recover_0 hX _ _ _ _ _ (i_aload rfl <| i_iload rfl <| j_rdV (q_this hB) (sp_Q_isReplica hB) rfl rfl <| i_ifb ?_ ?_)
  · intro hb
    exact h28 (fun q => by rw [hb] at q; exact absurd q.1 (by decide)) _ _
  · intro hb
    obtain ⟨i, hi, rfl⟩ := isR_t (by omega) hb
    have hcl : (nI i).toNatClampNeg = i := nI_clamp (by omega)
    obtain ⟨a1, a2, a3, a4, a5, a6, a7, a8, a9, a10⟩ := hR.2.2.2.1 i hi
    have hst := (st_1 (hI.1 i hi).1).2
    refine b_Q_recover_8 hX _ _ _ _ _ (i_aload rfl <| q_getf hB rfl <| i_iload rfl <| q_ald (c := i) hB (by first | rfl | simp only [nn_1, nn_5, nn_6, nn_24, nn_64, nn_69, nn_70, nn_320, nn_1656, nI_mul, nI_add]) (by show _ < 5; omega) <| i_push <| i_cmp ?_ ?_)
    · intro h
      rw [a1] at h
      refine h28 (fun q => ?_) _ _
      rw [rp, hcl] at q
      exact hst.mp h q.2.1
    · intro h
      rw [a1] at h
      have h' : rS (gR S i) = 3 ∨ rS (gR S i) = 2 := Classical.byContradiction (fun q => h (hst.mpr q))
      refine b_Q_recover_18 hX _ _ _ _ _ (i_iload rfl <| i_aload rfl <| q_getf hB rfl <| i_iload rfl <| q_ald (c := i) hB (by first | rfl | simp only [nn_1, nn_5, nn_6, nn_24, nn_64, nn_69, nn_70, nn_320, nn_1656, nI_mul, nI_add]) (by show _ < 5; omega) <| i_cmp ?_ ?_)
      · intro hlt
        rw [a9] at hlt
        refine b_Q_recover_30 hX _ _ _ _ _ (i_aload rfl <| q_getf hB rfl <| i_iload rfl <| i_iload rfl <| q_ast (c := i) hB (by first | rfl | simp only [nn_1, nn_5, nn_6, nn_24, nn_64, nn_69, nn_70, nn_320, nn_1656, nI_mul, nI_add]) (by show _ < 5; omega) <| i_aload rfl <| i_iload rfl <| j_upV (q_this hB) (sp_Q_fresh hB (by omega)) rfl rfl <| i_aload rfl <| q_getf hB rfl <| i_iload rfl <| i_push <| q_ast (c := i) hB (by first | rfl | simp only [nn_1, nn_5, nn_6, nn_24, nn_64, nn_69, nn_70, nn_320, nn_1656, nI_mul, nI_add]) (by show _ < 5; omega) <| i_aload rfl <| q_getf hB rfl <| i_push <| i_iload rfl <| i_bin <| i_iload rfl <| q_ast (c := 6 * i) hB (by first | rfl | simp only [nn_1, nn_5, nn_6, nn_24, nn_64, nn_69, nn_70, nn_320, nn_1656, nI_mul, nI_add]) (by show _ < 25; omega) <| i_aload rfl <| i_iload rfl <| i_push <| ?_)
        refine j_callV (q_this hB) (sp_Q_sendAll (what := 7) hB hN hi (rel_recov (x := y) (by omega) hi hR) (by show gT S < _; omega)) rfl rfl ?_
        rintro w F' ⟨rfl, s9, rfl, h9⟩
        refine (i_push <| i_zret ?_)
        have e : p_recover N S (nI i) y = (1, g_all (g_rep S i (r_recov (gR S i) i y)) i 7 N) := by
          rw [p_recover, rp, hcl, if_pos ⟨hb, h', hlt⟩]
        rw [e]
        exact ⟨rfl, s9, rfl, h9⟩
      · intro hlt
        rw [a9] at hlt
        refine h28 (fun q => ?_) _ _
        rw [rp, hcl] at q
        exact hlt q.2.2
end QSJ
