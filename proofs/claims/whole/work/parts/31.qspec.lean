section QSP
variable {l : Launch} {D : va_G} {cid : Nat → ClassId} {f : HF} {B : Nat → Nat} {N : Nat} {s : QS}
theorem cp_2 {a b k : Nat} : (cp s a b k).1 2 a = s.1 2 a := by
  rw [cp_a]
  split
  · rfl
  · rw [if_neg (by omega)]
theorem sp_Q_copy {a b L : Nat} (hB : QI B) (ha : a < 95) (hb : b < 95) (hL : s.1 2 a = nI L) (h24 : L ≤ 24) : CS l D cid m_Q_copy [.ref (B 0), .int (nI a), .int (nI b)] (hQ f B N s) (fun v f' => v = none ∧ f' = hQ f B N (cp s a b L)) := by
  intro X hX
  have loop : ∀ k, k ≤ L → ∀ bc bs, FR l D cid m_Q_copy X 14 [some (.ref (B 0)), some (.int (nI a)), some (.int (nI b)), some (.int (nI k))] [] (hQ f B N (cp s a b k)) bc bs := by
    refine up_to ?_ ?_
    · intro bc bs
      refine b_Q_copy_14 hX _ _ _ _ _ (i_iload rfl <| i_aload rfl <| q_getf hB rfl <| i_iload rfl <| q_ald (c := a) hB (by first | rfl | simp only [nn_1, nn_5, nn_6, nn_24, nn_64, nn_69, nn_70, nn_320, nn_1656, nI_mul, nI_add]) (by show _ < 95; omega) <| i_cmp_t (by rw [cp_2, hL]; exact Int32.le_refl _) ?_)
      refine b_Q_copy_96 hX _ _ _ _ _ (i_ret ?_)
      exact ⟨rfl, rfl⟩
    · intro k hk ih bc bs
      simp only [nI_succ] at ih
      refine b_Q_copy_14 hX _ _ _ _ _ (i_iload rfl <| i_aload rfl <| q_getf hB rfl <| i_iload rfl <| q_ald (c := a) hB (by first | rfl | simp only [nn_1, nn_5, nn_6, nn_24, nn_64, nn_69, nn_70, nn_320, nn_1656, nI_mul, nI_add]) (by show _ < 95; omega) <| i_cmp_f (by rw [cp_2, hL]; exact nI_ge hk (by omega)) ?_)
      refine b_Q_copy_24 hX _ _ _ _ _ (i_aload rfl <| q_getf hB rfl <| i_push <| i_iload rfl <| i_bin <| i_iload rfl <| i_bin <| i_aload rfl <| q_getf hB rfl <| i_push <| i_iload rfl <| i_bin <| i_iload rfl <| i_bin <| q_ald (c := 24 * a + k) hB (by first | rfl | simp only [nn_1, nn_5, nn_6, nn_24, nn_64, nn_69, nn_70, nn_320, nn_1656, nI_mul, nI_add]) (by show _ < 2280; omega) <| q_ast (c := 24 * b + k) hB (by first | rfl | simp only [nn_1, nn_5, nn_6, nn_24, nn_64, nn_69, nn_70, nn_320, nn_1656, nI_mul, nI_add]) (by show _ < 2280; omega) <| i_aload rfl <| q_getf hB rfl <| i_push <| i_iload rfl <| i_bin <| i_iload rfl <| i_bin <| i_aload rfl <| q_getf hB rfl <| i_push <| i_iload rfl <| i_bin <| i_iload rfl <| i_bin <| q_ald (c := 24 * a + k) hB (by first | rfl | simp only [nn_1, nn_5, nn_6, nn_24, nn_64, nn_69, nn_70, nn_320, nn_1656, nI_mul, nI_add]) (by show _ < 2280; omega) <| q_ast (c := 24 * b + k) hB (by first | rfl | simp only [nn_1, nn_5, nn_6, nn_24, nn_64, nn_69, nn_70, nn_320, nn_1656, nI_mul, nI_add]) (by show _ < 2280; omega) <| i_aload rfl <| q_getf hB rfl <| i_push <| i_iload rfl <| i_bin <| i_iload rfl <| i_bin <| i_aload rfl <| q_getf hB rfl <| i_push <| i_iload rfl <| i_bin <| i_iload rfl <| i_bin <| q_ald (c := 24 * a + k) hB (by first | rfl | simp only [nn_1, nn_5, nn_6, nn_24, nn_64, nn_69, nn_70, nn_320, nn_1656, nI_mul, nI_add]) (by show _ < 2280; omega) <| q_ast (c := 24 * b + k) hB (by first | rfl | simp only [nn_1, nn_5, nn_6, nn_24, nn_64, nn_69, nn_70, nn_320, nn_1656, nI_mul, nI_add]) (by show _ < 2280; omega) <| i_iinc rfl <| i_end ?_)
      have h := ih bc bs
      rw [← cp_s (by omega)] at h
      exact h
  refine b_Q_copy_0 hX _ _ _ _ _ (i_aload rfl <| q_getf hB rfl <| i_iload rfl <| i_aload rfl <| q_getf hB rfl <| i_iload rfl <| q_ald (c := a) hB (by first | rfl | simp only [nn_1, nn_5, nn_6, nn_24, nn_64, nn_69, nn_70, nn_320, nn_1656, nI_mul, nI_add]) (by show _ < 95; omega) <| q_ast (c := b) hB (by first | rfl | simp only [nn_1, nn_5, nn_6, nn_24, nn_64, nn_69, nn_70, nn_320, nn_1656, nI_mul, nI_add]) (by show _ < 95; omega) <| i_push <| i_istore <| i_end ?_)
  have h := loop 0 (Nat.zero_le _)
  rw [← cp_0] at h
  exact h _ _
def app (s : QS) (row L : Nat) (c n v : Int32) : QS := qw (qw (qw (qw s 3 (24 * row + L) c) 4 (24 * row + L) n) 5 (24 * row + L) v) 2 row (s.1 2 row + 1)
theorem sp_Q_append {row L : Nat} {c n v : Int32} (hB : QI B) (hr : row < 95) (hL : s.1 2 row = nI L) (h24 : L < 24) : CS l D cid m_Q_append [.ref (B 0), .int (nI row), .int c, .int n, .int v] (hQ f B N s) (fun w f' => w = none ∧ f' = hQ f B N (app s row L c n v)) := by
  intro X hX
  have hp : 24 * nI row + s.1 2 row = nI (24 * row + L) := by
    rw [hL]
    simp only [nn_24, nI_mul, nI_add]
  refine b_Q_append_0 hX _ _ _ _ _ (i_aload rfl <| q_getf hB rfl <| i_iload rfl <| q_ald (c := row) hB (by first | rfl | simp only [nn_1, nn_5, nn_6, nn_24, nn_64, nn_69, nn_70, nn_320, nn_1656, nI_mul, nI_add]) (by show _ < 95; omega) <| i_push <| i_cmp_f (by rw [hL]; exact nI_ge h24 (by decide)) ?_)
  refine b_Q_append_11 hX _ _ _ _ _ (i_push <| i_iload rfl <| i_bin <| i_aload rfl <| q_getf hB rfl <| i_iload rfl <| q_ald (c := row) hB (by first | rfl | simp only [nn_1, nn_5, nn_6, nn_24, nn_64, nn_69, nn_70, nn_320, nn_1656, nI_mul, nI_add]) (by show _ < 95; omega) <| i_bin <| i_istore <| i_aload rfl <| q_getf hB rfl <| i_iload rfl <| i_iload rfl <| q_ast (c := 24 * row + L) hB (hp) (by show _ < 2280; omega) <| i_aload rfl <| q_getf hB rfl <| i_iload rfl <| i_iload rfl <| q_ast (c := 24 * row + L) hB (hp) (by show _ < 2280; omega) <| i_aload rfl <| q_getf hB rfl <| i_iload rfl <| i_iload rfl <| q_ast (c := 24 * row + L) hB (hp) (by show _ < 2280; omega) <| i_aload rfl <| q_getf hB rfl <| i_iload rfl <| i_dup2 <| q_ald (c := row) hB (by first | rfl | simp only [nn_1, nn_5, nn_6, nn_24, nn_64, nn_69, nn_70, nn_320, nn_1656, nI_mul, nI_add]) (by show _ < 95; omega) <| i_push <| i_bin <| q_ast (c := row) hB (by first | rfl | simp only [nn_1, nn_5, nn_6, nn_24, nn_64, nn_69, nn_70, nn_320, nn_1656, nI_mul, nI_add]) (by show _ < 95; omega) <| i_end ?_)
  refine b_Q_append_59 hX _ _ _ _ _ (i_ret ?_)
  exact ⟨rfl, rfl⟩
def q_sum (s : QS) (r : Nat) : Nat → Int32
  | 0 => 0
  | k + 1 => 3 * q_sum s r k + s.1 5 (24 * r + k) + s.1 3 (24 * r + k)
theorem sp_Q_sum {r k L : Nat} (hB : QI B) (hr : r < 95) (hL : s.1 2 r = nI L) (h24 : L ≤ 24) (hk : k < 1000) : CS l D cid m_Q_sum [.ref (B 0), .int (nI r), .int (nI k)] (hQ f B N s) (fun w f' => w = some (.int (q_sum s r (min k L))) ∧ f' = hQ f B N s) := by
  intro X hX
  have loop : ∀ j, j ≤ min k L → ∀ bc bs, FR l D cid m_Q_sum X 5 [some (.ref (B 0)), some (.int (nI r)), some (.int (nI k)), some (.int (q_sum s r j)), some (.int (nI j))] [] (hQ f B N s) bc bs := by
    refine up_to ?_ ?_
    · intro bc bs
      rcases Nat.lt_or_ge L k with h | h
      · have e : min k L = L := by omega
        rw [e]
        refine b_Q_sum_5 hX _ _ _ _ _ (i_iload rfl <| i_iload rfl <| i_cmp_f (nI_ge h (by omega)) ?_)
        refine b_Q_sum_11 hX _ _ _ _ _ (i_iload rfl <| i_aload rfl <| q_getf hB rfl <| i_iload rfl <| q_ald (c := r) hB (by first | rfl | simp only [nn_1, nn_5, nn_6, nn_24, nn_64, nn_69, nn_70, nn_320, nn_1656, nI_mul, nI_add]) (by show _ < 95; omega) <| i_cmp_t (by rw [hL]; exact Int32.le_refl _) ?_)
        refine b_Q_sum_58 hX _ _ _ _ _ (i_iload rfl <| i_iret ?_)
        exact ⟨by rw [e], rfl⟩
      · have e : min k L = k := by omega
        rw [e]
        refine b_Q_sum_5 hX _ _ _ _ _ (i_iload rfl <| i_iload rfl <| i_cmp_t (Int32.le_refl _) ?_)
        refine b_Q_sum_58 hX _ _ _ _ _ (i_iload rfl <| i_iret ?_)
        exact ⟨by rw [e], rfl⟩
    · intro j hj ih bc bs
      simp only [nI_succ] at ih
      refine b_Q_sum_5 hX _ _ _ _ _ (i_iload rfl <| i_iload rfl <| i_cmp_f (nI_ge (by omega) (by omega)) ?_)
      refine b_Q_sum_11 hX _ _ _ _ _ (i_iload rfl <| i_aload rfl <| q_getf hB rfl <| i_iload rfl <| q_ald (c := r) hB (by first | rfl | simp only [nn_1, nn_5, nn_6, nn_24, nn_64, nn_69, nn_70, nn_320, nn_1656, nI_mul, nI_add]) (by show _ < 95; omega) <| i_cmp_f (by rw [hL]; exact nI_ge (by omega) (by omega)) ?_)
      refine b_Q_sum_22 hX _ _ _ _ _ (i_push <| i_iload rfl <| i_bin <| i_aload rfl <| q_getf hB rfl <| i_push <| i_iload rfl <| i_bin <| i_iload rfl <| i_bin <| q_ald (c := 24 * r + j) hB (by first | rfl | simp only [nn_1, nn_5, nn_6, nn_24, nn_64, nn_69, nn_70, nn_320, nn_1656, nI_mul, nI_add]) (by show _ < 2280; omega) <| i_bin <| i_aload rfl <| q_getf hB rfl <| i_push <| i_iload rfl <| i_bin <| i_iload rfl <| i_bin <| q_ald (c := 24 * r + j) hB (by first | rfl | simp only [nn_1, nn_5, nn_6, nn_24, nn_64, nn_69, nn_70, nn_320, nn_1656, nI_mul, nI_add]) (by show _ < 2280; omega) <| i_bin <| i_istore <| i_iinc rfl <| i_end ?_)
      exact ih _ _
  refine b_Q_sum_0 hX _ _ _ _ _ (i_push <| i_istore <| i_push <| i_istore <| i_end ?_)
  exact loop 0 (Nat.zero_le _) _ _
def q_ans (s : QS) (r k c : Nat) : QS := if s.1 4 (24 * r + k) < s.1 30 c then s else qw (qw s 30 c (s.1 4 (24 * r + k))) 31 c (q_sum (qw s 30 c (s.1 4 (24 * r + k))) r (k + 1))
theorem sp_Q_answerTo {r k c L : Nat} (hB : QI B) (hr : r < 95) (hL : s.1 2 r = nI L) (h24 : L ≤ 24) (hk : k < L) (hc : s.1 3 (24 * r + k) = nI c) (hc4 : c < 4) : CS l D cid m_Q_answerTo [.ref (B 0), .int (nI r), .int (nI k)] (hQ f B N s) (fun w f' => w = none ∧ f' = hQ f B N (q_ans s r k c)) := by
  intro X hX
  refine b_Q_answerTo_0 hX _ _ _ _ _ (i_aload rfl <| q_getf hB rfl <| i_push <| i_iload rfl <| i_bin <| i_iload rfl <| i_bin <| q_ald (c := 24 * r + k) hB (by first | rfl | simp only [nn_1, nn_5, nn_6, nn_24, nn_64, nn_69, nn_70, nn_320, nn_1656, nI_mul, nI_add]) (by show _ < 2280; omega) <| i_istore <| i_aload rfl <| q_getf hB rfl <| i_push <| i_iload rfl <| i_bin <| i_iload rfl <| i_bin <| q_ald (c := 24 * r + k) hB (by first | rfl | simp only [nn_1, nn_5, nn_6, nn_24, nn_64, nn_69, nn_70, nn_320, nn_1656, nI_mul, nI_add]) (by show _ < 2280; omega) <| i_aload rfl <| q_getf hB rfl <| i_iload rfl <| q_ald (c := c) hB (hc) (by show _ < 4; omega) <| i_cmp ?_ ?_)
  · intro h
    refine b_Q_answerTo_63 hX _ _ _ _ _ (i_ret ?_)
    exact ⟨rfl, by rw [q_ans, if_pos h]⟩
  · intro h
    refine b_Q_answerTo_32 hX _ _ _ _ _ (i_aload rfl <| q_getf hB rfl <| i_iload rfl <| i_aload rfl <| q_getf hB rfl <| i_push <| i_iload rfl <| i_bin <| i_iload rfl <| i_bin <| q_ald (c := 24 * r + k) hB (by first | rfl | simp only [nn_1, nn_5, nn_6, nn_24, nn_64, nn_69, nn_70, nn_320, nn_1656, nI_mul, nI_add]) (by show _ < 2280; omega) <| q_ast (c := c) hB (hc) (by show _ < 4; omega) <| i_aload rfl <| q_getf hB rfl <| i_iload rfl <| i_aload rfl <| i_iload rfl <| i_iload rfl <| i_push <| i_bin <| ?_)
    rw [← nI_succ]
    refine j_rdV (q_this hB) (sp_Q_sum (k := k + 1) hB hr hL h24 (by omega)) rfl rfl ?_
    refine (q_ast (c := c) hB (hc) (by show _ < 4; omega) <| i_end ?_)
    refine b_Q_answerTo_63 hX _ _ _ _ _ (i_ret ?_)
    refine ⟨rfl, ?_⟩
    rw [q_ans, if_neg h, show min (k + 1) L = k + 1 by omega]
theorem sp_Q_isReplica {x : Int32} (hB : QI B) : CS l D cid m_Q_isReplica [.ref (B 0), .int x] (hQ f B N s) (fun v f' => v = some (.int (bI (isR N x))) ∧ f' = hQ f B N s) := by
  intro X hX
  refine b_Q_isReplica_0 hX _ _ _ _ _ (i_iload rfl <| i_if ?_ ?_)
  · intro h
    refine b_Q_isReplica_16 hX _ _ _ _ _ (i_push <| i_end ?_)
    refine b_Q_isReplica_17 hX _ _ _ _ _ (i_zret ?_)
    exact ⟨by rw [show isR N x = false from decide_eq_false (fun q => q.1 h)]; rfl, rfl⟩
  · intro h
    refine b_Q_isReplica_4 hX _ _ _ _ _ (i_iload rfl <| i_aload rfl <| q_getf hB rfl <| i_cmp ?_ ?_)
    · intro h'
      refine b_Q_isReplica_16 hX _ _ _ _ _ (i_push <| i_end ?_)
      refine b_Q_isReplica_17 hX _ _ _ _ _ (i_zret ?_)
      exact ⟨by rw [show isR N x = false from decide_eq_false (fun q => Int32.not_lt.mpr h' q.2)]; rfl, rfl⟩
    · intro h'
      refine b_Q_isReplica_12 hX _ _ _ _ _ (i_push <| i_end ?_)
      refine b_Q_isReplica_17 hX _ _ _ _ _ (i_zret ?_)
      exact ⟨by rw [show isR N x = true from decide_eq_true ⟨h, Int32.not_le.mp h'⟩]; rfl, rfl⟩
theorem sp_Q_leads {r v : Nat} {R : RS} (hB : QI B) (hN : N = 3 ∨ N = 5) (hr : r < 5) (h6 : s.1 6 r = rS R) (h7 : s.1 7 r = rV R) (hv : rV R = nI v) (hv30 : v < 2 ^ 30) : CS l D cid m_Q_leads [.ref (B 0), .int (nI r)] (hQ f B N s) (fun w f' => w = some (.int (bI (decide (leads N R r)))) ∧ f' = hQ f B N s) := by
  intro X hX
  have hm : fmod (rV R) (nI N) = s.1 7 r - s.1 7 r / nI N * nI N := by
    rw [h7, hv, fm_N (by omega) hN, pk_rem (by omega) (by omega) (by omega)]
  refine b_Q_leads_0 hX _ _ _ _ _ (i_aload rfl <| q_getf hB rfl <| i_iload rfl <| q_ald (c := r) hB (by first | rfl | simp only [nn_1, nn_5, nn_6, nn_24, nn_64, nn_69, nn_70, nn_320, nn_1656, nI_mul, nI_add]) (by show _ < 5; omega) <| i_if ?_ ?_)
  · intro h
    rw [h6] at h
    refine b_Q_leads_28 hX _ _ _ _ _ (i_push <| i_end ?_)
    refine b_Q_leads_29 hX _ _ _ _ _ (i_zret ?_)
    exact ⟨by rw [decide_eq_false (fun q : leads N R r => h q.1)]; rfl, rfl⟩
  · intro h
    have h' := Classical.not_not.mp h
    rw [h6] at h'
    refine b_Q_leads_9 hX _ _ _ _ _ (i_aload rfl <| q_getf hB rfl <| i_iload rfl <| q_ald (c := r) hB (by first | rfl | simp only [nn_1, nn_5, nn_6, nn_24, nn_64, nn_69, nn_70, nn_320, nn_1656, nI_mul, nI_add]) (by show _ < 5; omega) <| i_aload rfl <| q_getf hB rfl <| i_binz (nN0 hN) <| i_iload rfl <| i_cmp ?_ ?_)
    · intro hn
      rw [← hm] at hn
      refine b_Q_leads_28 hX _ _ _ _ _ (i_push <| i_end ?_)
      refine b_Q_leads_29 hX _ _ _ _ _ (i_zret ?_)
      exact ⟨by rw [decide_eq_false (fun q : leads N R r => hn q.2)]; rfl, rfl⟩
    · intro hn
      rw [← hm] at hn
      refine b_Q_leads_24 hX _ _ _ _ _ (i_push <| i_end ?_)
      refine b_Q_leads_29 hX _ _ _ _ _ (i_zret ?_)
      exact ⟨by rw [decide_eq_true (show leads N R r from ⟨h', Classical.not_not.mp hn⟩)]; rfl, rfl⟩
theorem sp_Q_forget {r : Nat} (hB : QI B) (hr : r < 5) : CS l D cid m_Q_forget [.ref (B 0), .int (nI r)] (hQ f B N s) (fun w f' => w = none ∧ f' = hQ f B N (fg s r 5)) := by
  intro X hX
  have loop : ∀ t, t ≤ 5 → ∀ bc bs, FR l D cid m_Q_forget X 2 [some (.ref (B 0)), some (.int (nI r)), some (.int (nI t))] [] (hQ f B N (fg s r t)) bc bs := by
    refine up_to ?_ ?_
    · intro bc bs
      refine b_Q_forget_2 hX _ _ _ _ _ (i_iload rfl <| i_push <| i_cmp_t (Int32.le_refl _) ?_)
      refine b_Q_forget_35 hX _ _ _ _ _ (i_ret ?_)
      exact ⟨rfl, rfl⟩
    · intro t ht ih bc bs
      simp only [nI_succ] at ih
      refine b_Q_forget_2 hX _ _ _ _ _ (i_iload rfl <| i_push <| i_cmp_f (nI_ge ht (by decide)) ?_)
      refine b_Q_forget_7 hX _ _ _ _ _ (i_aload rfl <| q_getf hB rfl <| i_push <| i_iload rfl <| i_bin <| i_iload rfl <| i_bin <| i_push <| q_zst (c := 5 * r + t) hB (by first | rfl | simp only [nn_1, nn_5, nn_6, nn_24, nn_64, nn_69, nn_70, nn_320, nn_1656, nI_mul, nI_add]) (by show _ < 25; omega) <| i_aload rfl <| q_getf hB rfl <| i_push <| i_iload rfl <| i_bin <| i_iload rfl <| i_bin <| i_push <| q_zst (c := 5 * r + t) hB (by first | rfl | simp only [nn_1, nn_5, nn_6, nn_24, nn_64, nn_69, nn_70, nn_320, nn_1656, nI_mul, nI_add]) (by show _ < 25; omega) <| i_iinc rfl <| i_end ?_)
      rw [fg_s]
      exact ih _ _
  refine b_Q_forget_0 hX _ _ _ _ _ (i_push <| i_istore <| i_end ?_)
  have h := loop 0 (Nat.zero_le _)
  rw [fg_0] at h
  exact h _ _
def q_fresh (s : QS) (r : Nat) : QS := fg (vz (qw (qw (qw (qw (qw s 7 r 0) 8 r 0) 2 r 0) 9 r 0) 12 r 0) r 5) r 5
theorem sp_Q_fresh {r : Nat} (hB : QI B) (hr : r < 5) : CS l D cid m_Q_fresh [.ref (B 0), .int (nI r)] (hQ f B N s) (fun w f' => w = none ∧ f' = hQ f B N (q_fresh s r)) := by
  intro X hX
  have loop : ∀ t, t ≤ 5 → ∀ bc bs, FR l D cid m_Q_fresh X 37 [some (.ref (B 0)), some (.int (nI r)), some (.int (nI t))] [] (hQ f B N (vz (qw (qw (qw (qw (qw s 7 r 0) 8 r 0) 2 r 0) 9 r 0) 12 r 0) r t)) bc bs := by
    refine up_to ?_ ?_
    · intro bc bs
      refine b_Q_fresh_37 hX _ _ _ _ _ (i_iload rfl <| i_push <| i_cmp_t (Int32.le_refl _) ?_)
      refine b_Q_fresh_70 hX _ _ _ _ _ (i_aload rfl <| i_iload rfl <| j_upV (q_this hB) (sp_Q_forget hB hr) rfl rfl <| i_ret ?_)
      exact ⟨rfl, rfl⟩
    · intro t ht ih bc bs
      simp only [nI_succ] at ih
      refine b_Q_fresh_37 hX _ _ _ _ _ (i_iload rfl <| i_push <| i_cmp_f (nI_ge ht (by decide)) ?_)
      refine b_Q_fresh_42 hX _ _ _ _ _ (i_aload rfl <| q_getf hB rfl <| i_push <| i_iload rfl <| i_bin <| i_iload rfl <| i_bin <| i_push <| q_ast (c := 5 * r + t) hB (by first | rfl | simp only [nn_1, nn_5, nn_6, nn_24, nn_64, nn_69, nn_70, nn_320, nn_1656, nI_mul, nI_add]) (by show _ < 25; omega) <| i_aload rfl <| q_getf hB rfl <| i_push <| i_iload rfl <| i_bin <| i_iload rfl <| i_bin <| i_push <| q_ast (c := 5 * r + t) hB (by first | rfl | simp only [nn_1, nn_5, nn_6, nn_24, nn_64, nn_69, nn_70, nn_320, nn_1656, nI_mul, nI_add]) (by show _ < 25; omega) <| i_iinc rfl <| i_end ?_)
      rw [vz_s]
      exact ih _ _
  refine b_Q_fresh_0 hX _ _ _ _ _ (i_aload rfl <| q_getf hB rfl <| i_iload rfl <| i_push <| q_ast (c := r) hB (by first | rfl | simp only [nn_1, nn_5, nn_6, nn_24, nn_64, nn_69, nn_70, nn_320, nn_1656, nI_mul, nI_add]) (by show _ < 5; omega) <| i_aload rfl <| q_getf hB rfl <| i_iload rfl <| i_push <| q_ast (c := r) hB (by first | rfl | simp only [nn_1, nn_5, nn_6, nn_24, nn_64, nn_69, nn_70, nn_320, nn_1656, nI_mul, nI_add]) (by show _ < 5; omega) <| i_aload rfl <| q_getf hB rfl <| i_iload rfl <| i_push <| q_ast (c := r) hB (by first | rfl | simp only [nn_1, nn_5, nn_6, nn_24, nn_64, nn_69, nn_70, nn_320, nn_1656, nI_mul, nI_add]) (by show _ < 95; omega) <| i_aload rfl <| q_getf hB rfl <| i_iload rfl <| i_push <| q_ast (c := r) hB (by first | rfl | simp only [nn_1, nn_5, nn_6, nn_24, nn_64, nn_69, nn_70, nn_320, nn_1656, nI_mul, nI_add]) (by show _ < 5; omega) <| i_aload rfl <| q_getf hB rfl <| i_iload rfl <| i_push <| q_zst (c := r) hB (by first | rfl | simp only [nn_1, nn_5, nn_6, nn_24, nn_64, nn_69, nn_70, nn_320, nn_1656, nI_mul, nI_add]) (by show _ < 5; omega) <| i_push <| i_istore <| i_end ?_)
  have h := loop 0 (Nat.zero_le _)
  rw [vz_0] at h
  exact h _ _
theorem sp_Q_send {r d T L : Nat} {what : Int32} (hB : QI B) (hr : r < 5) (hT : s.2.1 = nI T) (hT30 : T < 2 ^ 30) (hL : s.1 2 r = nI L) (h24 : L ≤ 24) : CS l D cid m_Q_send [.ref (B 0), .int (nI r), .int (nI d), .int what] (hQ f B N s) (fun w f' => w = none ∧ f' = hQ f B N (q_send s r d what L T)) := by
  intro X hX
  have hm : s.2.1 &&& 63 = nI (T % 64) := by
    rw [hT]
    exact pk_andN (by omega) 6 (by decide)
  have hm64 : T % 64 < 64 := Nat.mod_lt _ (by decide)
  have loop : ∀ k, k ≤ 5 → ∀ bc bs, FR l D cid m_Q_send X 75 [some (.ref (B 0)), some (.int (nI r)), some (.int (nI d)), some (.int what), some (.int (nI (T % 64))), some (.int (nI k))] [] (hQ f B N (spt (hdr s (T % 64) r d what) (T % 64) r k)) bc bs := by
    refine up_to ?_ ?_
    · intro bc bs
      refine b_Q_send_75 hX _ _ _ _ _ (i_iload rfl <| i_push <| i_cmp_t (Int32.le_refl _) ?_)
      refine b_Q_send_110 hX _ _ _ _ _ (i_aload rfl <| i_iload rfl <| i_push <| i_iload rfl <| i_bin <| ?_)
      rw [nn_5, nI_add]
      refine j_upV (q_this hB) (sp_Q_copy (L := L) hB (by omega) (by omega) ?_ h24) rfl rfl ?_
      · rw [spt_a, if_neg (by omega), hdr_a, if_neg (by omega)]
        exact hL
      · refine (i_aload rfl <| i_dup <| q_getf hB rfl <| i_push <| i_bin <| q_put28 hB <| i_ret ?_)
        refine ⟨rfl, ?_⟩
        rw [q_send, ← hT]
        rfl
    · intro k hk ih bc bs
      simp only [nI_succ] at ih
      refine b_Q_send_75 hX _ _ _ _ _ (i_iload rfl <| i_push <| i_cmp_f (nI_ge hk (by decide)) ?_)
      refine b_Q_send_81 hX _ _ _ _ _ (i_aload rfl <| q_getf hB rfl <| i_push <| i_iload rfl <| i_bin <| i_iload rfl <| i_bin <| i_aload rfl <| q_getf hB rfl <| i_push <| i_iload rfl <| i_bin <| i_iload rfl <| i_bin <| q_ald (c := 5 * r + k) hB (by first | rfl | simp only [nn_1, nn_5, nn_6, nn_24, nn_64, nn_69, nn_70, nn_320, nn_1656, nI_mul, nI_add]) (by show _ < 25; omega) <| q_ast (c := 5 * (T % 64) + k) hB (by first | rfl | simp only [nn_1, nn_5, nn_6, nn_24, nn_64, nn_69, nn_70, nn_320, nn_1656, nI_mul, nI_add]) (by show _ < 325; omega) <| i_iinc rfl <| i_end ?_)
      rw [spt_s]
      exact ih _ _
  refine b_Q_send_0 hX _ _ _ _ _ (i_aload rfl <| q_getf hB rfl <| i_push <| i_bin <| i_istore <| i_aload rfl <| q_getf hB rfl <| i_iload rfl <| i_iload rfl <| q_ast (c := T % 64) hB (hm) (by show _ < 65; omega) <| i_aload rfl <| q_getf hB rfl <| i_iload rfl <| i_iload rfl <| q_ast (c := T % 64) hB (hm) (by show _ < 65; omega) <| i_aload rfl <| q_getf hB rfl <| i_iload rfl <| i_iload rfl <| q_ast (c := T % 64) hB (hm) (by show _ < 65; omega) <| i_aload rfl <| q_getf hB rfl <| i_iload rfl <| i_aload rfl <| q_getf hB rfl <| i_iload rfl <| q_ald (c := r) hB (by first | rfl | simp only [nn_1, nn_5, nn_6, nn_24, nn_64, nn_69, nn_70, nn_320, nn_1656, nI_mul, nI_add]) (by show _ < 5; omega) <| q_ast (c := T % 64) hB (hm) (by show _ < 65; omega) <| i_aload rfl <| q_getf hB rfl <| i_iload rfl <| i_aload rfl <| q_getf hB rfl <| i_iload rfl <| q_ald (c := r) hB (by first | rfl | simp only [nn_1, nn_5, nn_6, nn_24, nn_64, nn_69, nn_70, nn_320, nn_1656, nI_mul, nI_add]) (by show _ < 5; omega) <| q_ast (c := T % 64) hB (hm) (by show _ < 65; omega) <| i_aload rfl <| q_getf hB rfl <| i_iload rfl <| i_aload rfl <| q_getf hB rfl <| i_iload rfl <| q_ald (c := r) hB (by first | rfl | simp only [nn_1, nn_5, nn_6, nn_24, nn_64, nn_69, nn_70, nn_320, nn_1656, nI_mul, nI_add]) (by show _ < 5; omega) <| q_ast (c := T % 64) hB (hm) (by show _ < 65; omega) <| i_push <| i_istore <| i_end ?_)
  rw [hm]
  have h := loop 0 (Nat.zero_le _)
  rw [spt_0] at h
  exact h _ _
end QSP
