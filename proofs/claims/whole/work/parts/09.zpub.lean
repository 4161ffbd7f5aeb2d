section INVP
variable {N n i : Nat} {S : GS} {R : RS} {m : Msg}
theorem T_ans {es : List Ent} : gT (g_ans S es) = gT S := by
  unfold g_ans
  split <;> rfl
theorem T_anss {es : List Ent} : ∀ (k : Nat) (c : Int32) (S : GS), gT (g_anss es k c S) = gT S
  | 0, _, _ => rfl
  | k + 1, c, S => (T_anss k (c + 1) (g_ans S (fse es c))).trans T_ans
theorem T_start {v : Int32} : gT (g_start N S i v) ≤ gT S + N := g_all_T (g_rep S i (r_start (gR S i) v)) i 5 N
theorem T_join : gT (g_join N S i m) ≤ gT S + N := by
  unfold g_join
  split
  · exact T_start
  · omega
theorem T_prep : gT (g_prep S i m) ≤ gT S + 1 := by
  unfold g_prep
  repeat' split
  · omega
  · exact Nat.le_refl _
  · exact Nat.le_refl _
theorem T_ok : gT (g_ok N S i m) ≤ gT S := by
  unfold g_ok
  split
  · exact Nat.le_refl _
  · rw [T_anss]
    exact Nat.le_refl _
theorem T_state : gT (g_state N S i m) ≤ gT S + 1 := by
  unfold g_state
  repeat' split
  · omega
  · exact Nat.le_refl _
  · omega
theorem T_reply {kind : Int32} : gT (g_reply S i m kind) ≤ gT S + 1 := by
  unfold g_reply
  split
  · exact Nat.le_refl _
  · omega
theorem T_vote : gT (g_vote N S i m) ≤ gT S + 1 := by
  unfold g_vote
  split
  · exact Nat.le_refl _
  · show gT S ≤ gT S + 1
    omega
theorem T_paper : gT (g_paper N S i m) ≤ gT S + N := by
  unfold g_paper
  split
  · exact g_all_T (g_rep S i (r_primary (r_pap (gR S i) m) N)) i 4 N
  · show gT S ≤ gT S + N
    omega
theorem T_kind (hN : N ≤ 5) : gT (g_kind N S i m) ≤ gT S + 10 := by
  have hj := T_join (N := N) (S := S) (i := i) (m := m)
  unfold g_kind
  repeat' split
  · have := T_prep (S := S) (i := i) (m := m)
    omega
  · have := T_ok (N := N) (S := S) (i := i) (m := m)
    omega
  · have := T_reply (S := S) (i := i) (m := m) (kind := 4)
    omega
  · have := T_state (N := N) (S := S) (i := i) (m := m)
    omega
  · have := T_vote (N := N) (S := g_join N S i m) (i := i) (m := m)
    omega
  · omega
  · have := T_paper (N := N) (S := g_join N S i m) (i := i) (m := m)
    omega
  · omega
  · have := T_reply (S := S) (i := i) (m := m) (kind := 8)
    omega
  · show gT S ≤ gT S + 10
    omega
  · omega
theorem T_recv (hN : N ≤ 5) : gT (g_recv N S m).2 ≤ gT S + 10 := by
  unfold g_recv
  repeat' split
  · show gT S ≤ gT S + 10
    omega
  · show gT S ≤ gT S + 10
    omega
  · exact T_kind (S := g_rep S (mD m) (r_raise (gR S (mD m)) (mX m))) hN
def Ok (N n : Nat) (S : GS) : Prop := Inv N n S ∧ gT S ≤ 10 * n
theorem Ok.up (h : Ok N n S) : Ok N (n + 1) S := ⟨h.1.up (by omega), by have := h.2; omega⟩
theorem fms_s {k : Int32} {kk : Nat} (h : fms S k = some kk) : kk < gT S ∧ gT S ≤ kk + 64 ∧ k = nI kk := by
  unfold fms at h
  split at h
  · rename_i hc
    cases h
    refine ⟨hc.2.1, hc.2.2, ?_⟩
    obtain ⟨j, hj, rfl⟩ := nI_of hc.1
    rw [nI_clamp hj]
  · cases h
theorem ok_deliver {k : Int32} (hN : N = 3 ∨ N = 5) (hn : n < 2 ^ 30) (h : Ok N n S) : Ok N (n + 1) (p_deliver N S k).2 := by
  unfold p_deliver
  split
  · exact h.up
  · rename_i kk hk
    have := T_recv (N := N) (S := S) (m := gM S kk) (by omega)
    have h2 := h.2
    exact ⟨(inv_recv hN hn h.1 (h.1.2.1 kk (fms_s hk).1)).up (by omega), by omega⟩
theorem ok_next (hN : N = 3 ∨ N = 5) (hn : n < 2 ^ 30) (h : Ok N n S) : Ok N (n + 1) (p_next N S).2 := by
  unfold p_next
  split
  · exact h.up
  · rename_i kk hk
    obtain ⟨k1, k2, k3⟩ := fms_s hk
    have hL : Inv N n (g_lat S (nxk S)) := ⟨h.1.1, h.1.2.1, kk + 1, k1, by show nxk S + 1 = _; rw [k3, nI_succ]⟩
    have := T_recv (N := N) (S := g_lat S (nxk S)) (m := gM S kk) (by omega)
    have h2 := h.2
    have h3 : gT (g_lat S (nxk S)) = gT S := rfl
    exact ⟨(inv_recv hN hn hL (h.1.2.1 kk k1)).up (by omega), by omega⟩
theorem ok_remind {x : Int32} (hN : N = 3 ∨ N = 5) (h : Ok N n S) : Ok N (n + 1) (p_remind N S x).2 := by
  unfold p_remind
  split
  · rename_i hc
    obtain ⟨i, hi, rfl⟩ := isR_t (by omega) hc.1
    rw [nI_clamp (by omega)]
    have := g_all_T S i 1 N
    have h2 := h.2
    exact ⟨(inv_all (k := 1) h.1 hi ⟨by omega, by omega, rfl⟩ N (Nat.le_refl _)).up (by omega), by show gT (g_all S i 1 N) ≤ _; omega⟩
  · exact h.up
theorem ok_suspect {x : Int32} (hN : N = 3 ∨ N = 5) (h : Ok N n S) : Ok N (n + 1) (p_suspect N S x).2 := by
  unfold p_suspect
  split
  · rename_i hc
    obtain ⟨i, hi, rfl⟩ := isR_t (by omega) hc.1
    have hcl : (nI i).toNatClampNeg = i := nI_clamp (by omega)
    show Ok N (n + 1) (g_start N S (nI i).toNatClampNeg (rV (gR S (nI i).toNatClampNeg) + 1))
    rw [hcl]
    obtain ⟨v, hv, he⟩ := (h.1.1 i hi).2.1
    have := T_start (N := N) (S := S) (i := i) (v := rV (gR S i) + 1)
    have h2 := h.2
    exact ⟨inv_gstart (h.1.up (by omega)) hi ⟨v + 1, by omega, by rw [he, nI_succ]⟩, by omega⟩
  · exact h.up
theorem inv_fresh (hR : InvR N n i R) : InvR N n i (r_fresh R) := by
  obtain ⟨h1, h2⟩ := hR
  exact ⟨h1, vw_0, vw_0, ⟨Nat.zero_le _, fun e he => (List.not_mem_nil he).elim⟩, b24_0, fun _ _ => b24_0, rfl, Or.inl rfl, KO_no, KO_no, KO_no, fun _ _ _ => ⟨rfl, rfl⟩, fun _ _ _ => rfl⟩
theorem ok_crash {x : Int32} (hN : N = 3 ∨ N = 5) (h : Ok N n S) : Ok N (n + 1) (p_crash N S x).2 := by
  unfold p_crash
  split
  · rename_i hc
    obtain ⟨i, hi, rfl⟩ := isR_t (by omega) hc.1
    have hcl : (nI i).toNatClampNeg = i := nI_clamp (by omega)
    show Ok N (n + 1) (g_rep S (nI i).toNatClampNeg (3, (r_fresh (gR S (nI i).toNatClampNeg)).2))
    rw [hcl]
    have h2 := h.2
    refine ⟨inv_rep (h.1.up (by omega)) ?_, by show gT S ≤ _; omega⟩
    obtain ⟨h1, h3⟩ := inv_fresh (h.1.1 i hi)
    exact InvR.up (n := n) ⟨⟨3, by omega, rfl⟩, vw_0, vw_0, ⟨Nat.zero_le _, fun e he => (List.not_mem_nil he).elim⟩, b24_0, fun _ _ => b24_0, rfl, Or.inl rfl, KO_no, KO_no, KO_no, fun _ _ _ => ⟨rfl, rfl⟩, fun _ _ _ => rfl⟩ (by omega)
  · exact h.up
theorem ok_recover {x k : Int32} (hN : N = 3 ∨ N = 5) (h : Ok N n S) : Ok N (n + 1) (p_recover N S x k).2 := by
  unfold p_recover
  split
  · rename_i hc
    obtain ⟨i, hi, rfl⟩ := isR_t (by omega) hc.1
    have hcl : (nI i).toNatClampNeg = i := nI_clamp (by omega)
    show Ok N (n + 1) (g_all (g_rep S (nI i).toNatClampNeg (r_recov (gR S (nI i).toNatClampNeg) (nI i).toNatClampNeg k)) (nI i).toNatClampNeg 7 N)
    rw [hcl]
    have hT := g_all_T (g_rep S i (r_recov (gR S i) i k)) i 7 N
    have h9 : gT (g_rep S i (r_recov (gR S i) i k)) = gT S := rfl
    have h2 := h.2
    have hR : InvR N (n + 1) i (r_recov (gR S i) i k) := ⟨⟨2, by omega, rfl⟩, vw_0, vw_0, ⟨Nat.zero_le _, fun e he => (List.not_mem_nil he).elim⟩, b24_0, fun _ _ => b24_0, rfl, Or.inl rfl, KO_no, KO_no, KO_no, fun _ _ _ => ⟨rfl, rfl⟩, fun q => absurd rfl q⟩
    exact ⟨inv_all (k := 7) (inv_rep (h.1.up (by omega)) hR) hi ⟨by omega, by omega, rfl⟩ N (Nat.le_refl _), by omega⟩
  · exact h.up
theorem ok_request {x c k v : Int32} (hN : N = 3 ∨ N = 5) (h : Ok N n S) : Ok N (n + 1) (p_request N S x c k v).2 := by
  unfold p_request
  split
  · exact h.up
  · rename_i hc
    have hc' := Classical.not_not.mp hc
    obtain ⟨i, hi, rfl⟩ := isR_t (by omega) hc'.1
    obtain ⟨cc, hcc, rfl⟩ := isCl_t hc'.2.1
    have hcl : (nI i).toNatClampNeg = i := nI_clamp (by omega)
    split
    · exact h.up
    · split
      · exact h.up
      · split
        · split
          · exact ⟨(inv_ans h.1).up (by omega), by have := h.2; show gT (g_ans S _) ≤ _; rw [T_ans]; omega⟩
          · exact h.up
        · split
          · rename_i hlen
            show Ok N (n + 1) (g_all (g_rep S (nI i).toNatClampNeg (r_add (gR S (nI i).toNatClampNeg) (nI cc, k, v))) (nI i).toNatClampNeg 1 N)
            have hlen' : nI (rG (gR S (nI i).toNatClampNeg)).length < 24 := hlen
            rw [hcl] at hlen' ⊢
            have hT := g_all_T (g_rep S i (r_add (gR S i) (nI cc, k, v))) i 1 N
            have h9 : gT (g_rep S i (r_add (gR S i) (nI cc, k, v))) = gT S := rfl
            have h2 := h.2
            have hR : InvR N n i (r_add (gR S i) (nI cc, k, v)) := by
              obtain ⟨a1, a2, a3, a4, a5⟩ := h.1.1 i hi
              refine ⟨a1, a2, a3, ⟨?_, fun e he => ?_⟩, a5⟩
              · show (rG (gR S i)).length + 1 ≤ 24
                have h24 := a4.1
                rcases Nat.lt_or_ge (rG (gR S i)).length 24 with h8 | h8
                · omega
                · exact absurd hlen' (nI_nlt h8 (by omega))
              · rcases List.mem_cons.mp he with rfl | h8
                · exact ⟨cc, hcc, rfl⟩
                · exact a4.2 e h8
            exact ⟨(inv_all (k := 1) (inv_rep h.1 hR) hi ⟨by omega, by omega, rfl⟩ N (Nat.le_refl _)).up (by omega), by omega⟩
          · exact h.up
end INVP
