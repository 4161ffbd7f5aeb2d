section PUB
variable {N i n : Nat} {S : GS} {R : RS} {m : Msg}
def r_vec (R : RS) (w : Nat → Int32) : RS := (rS R, rV R, rL R, rG R, rC R, rse (rX R) w, rA R, rP R, rO R, rE R, rR R, rN R)
theorem drp_n {km : KM} {v : Nat → Int32} {t : Nat} (h : km t = none) : drp km v t = none := by simp [drp, h]
theorem drp_s {km : KM} {v : Nat → Int32} {t : Nat} {m : Msg} (h : km t = some m) : drp km v t = if mX m t < v t then none else some m := by simp [drp, h]
def r_drop (R : RS) : RS := (rS R, rV R, rL R, rG R, rC R, rX R, rA R, rP R, drp (rO R) (rX R), drp (rE R) (rX R), drp (rR R) (rX R), rN R)
theorem bst_n {k : KM} {b0 : List Ent × Int32 × Int32} {t : Nat} (h : k t = none) : bst k b0 (t + 1) = bst k b0 t := by simp [bst, h]
theorem bst_p {k : KM} {b0 : List Ent × Int32 × Int32} {t : Nat} {m : Msg} (h : k t = some m) (hc : (bst k b0 t).2.1 < mL m ∨ (mL m = (bst k b0 t).2.1 ∧ nI (bst k b0 t).1.length < nI (mG m).length)) : bst k b0 (t + 1) = (mG m, mL m, mx (bst k b0 t).2.2 (mC m)) := by
  rw [bst, h]
  exact if_pos hc
theorem bst_m {k : KM} {b0 : List Ent × Int32 × Int32} {t : Nat} {m : Msg} (h : k t = some m) (hc : ¬ ((bst k b0 t).2.1 < mL m ∨ (mL m = (bst k b0 t).2.1 ∧ nI (bst k b0 t).1.length < nI (mG m).length))) : bst k b0 (t + 1) = ((bst k b0 t).1, (bst k b0 t).2.1, mx (bst k b0 t).2.2 (mC m)) := by
  rw [bst, h]
  exact if_neg hc
def isR (N : Nat) (x : Int32) : Bool := decide (¬ x < 0 ∧ x < nI N)
def isCl (x : Int32) : Bool := decide (¬ x < 0 ∧ x < 4)
theorem isR_t {x : Int32} (hN : N ≤ 5) (h : isR N x = true) : ∃ i, i < N ∧ x = nI i := by
  have h' := of_decide_eq_true h
  obtain ⟨j, hj, rfl⟩ := nI_of h'.1
  exact ⟨j, (nI_ltI hj (by omega)).mp h'.2, rfl⟩
theorem isCl_t {x : Int32} (h : isCl x = true) : ∃ i, i < 4 ∧ x = nI i := by
  have h' := of_decide_eq_true h
  obtain ⟨j, hj, rfl⟩ := nI_of h'.1
  exact ⟨j, (nI_ltI hj (by omega)).mp h'.2, rfl⟩
theorem g_all_R (S : GS) (i : Nat) (kind : Int32) : ∀ t, gR (g_all S i kind t) = gR S
  | 0 => rfl
  | t + 1 => by
    rw [g_all]
    split
    · exact g_all_R S i kind t
    · exact g_all_R S i kind t
theorem g_all_T (S : GS) (i : Nat) (kind : Int32) : ∀ t, gT (g_all S i kind t) ≤ gT S + t
  | 0 => Nat.le_refl _
  | t + 1 => by
    have h := g_all_T S i kind t
    rw [g_all]
    split
    · omega
    · show gT (g_all S i kind t) + 1 ≤ _
      omega
theorem g_rep_rep (S : GS) (i : Nat) (R R' : RS) : g_rep (g_rep S i R) i R' = g_rep S i R' := by
  show (gT S, gL S, gM S, gN S, gA S, va_up (va_up (gR S) i R) i R') = _
  rw [va_va]
  rfl
theorem g_rep_id (S : GS) (i : Nat) : g_rep S i (gR S i) = S := by
  show (gT S, gL S, gM S, gN S, gA S, va_up (gR S) i (gR S i)) = S
  rw [va_id rfl]
theorem g_rep_R (S : GS) (i : Nat) (R : RS) : gR (g_rep S i R) i = R := va_s _ _ _
theorem r_put_C (R : RS) (m : Msg) : rC (r_put R m) = rC R := by
  unfold r_put
  split <;> rfl
theorem b24_akb {a : Nat → Int32} {e c0 : Int32} (h0 : b24 c0) (ha : ∀ t, t < N → b24 (a t)) : ∀ t, t ≤ N → b24 (akb a N e c0 t)
  | 0, _ => h0
  | t + 1, ht => by
    rw [akb]
    split
    · exact ha t (by omega)
    · exact b24_akb h0 ha t (by omega)
def fms (S : GS) (k : Int32) : Option Nat := if ¬ k < 0 ∧ k.toNatClampNeg < gT S ∧ gT S ≤ k.toNatClampNeg + 64 then some k.toNatClampNeg else none
def sml (x : Int32) : Prop := ∃ v : Nat, v < 2 ^ 30 ∧ x = nI v
theorem sml.ex {x : Int32} (h : sml x) : ∃ v : Nat, v < 2 ^ 31 ∧ x = nI v := by
  obtain ⟨v, h1, h2⟩ := h
  exact ⟨v, by omega, h2⟩
theorem sml_mx {x y : Int32} (hx : sml x) (hy : sml y) : sml (mx x y) := by
  unfold mx
  split
  · exact hy
  · exact hx
theorem sml_gvw {k : KM} : ∀ {t : Nat}, (∀ s m, s < t → k s = some m → sml (mV m)) → sml (gvw k t)
  | 0, _ => ⟨0, by decide, rfl⟩
  | t + 1, h => by
    have ih := sml_gvw (t := t) (fun s m hs hm => h s m (by omega) hm)
    rw [gvw]
    cases hk : k t with
    | none => exact ih
    | some m => exact sml_mx ih (h t m (by omega) hk)
def VI (N : Nat) (S : GS) : Prop := ∀ i, i < N → sml (rV (gR S i)) ∧ ∀ t m, t < N → rR (gR S i) t = some m → sml (mV m)
abbrev rp (S : GS) (x : Int32) : RS := gR S x.toNatClampNeg
def p_status (N : Nat) (S : GS) (x : Int32) : Int32 := if isR N x = true then rS (rp S x) else -1
def p_view (N : Nat) (S : GS) (x : Int32) : Int32 := if isR N x = true then rV (rp S x) else -1
def p_commit (N : Nat) (S : GS) (x : Int32) : Int32 := if isR N x = true then rC (rp S x) else -1
def p_length (N : Nat) (S : GS) (x : Int32) : Int32 := if isR N x = true then nI (rG (rp S x)).length else -1
def p_answered (S : GS) (x : Int32) : Int32 := if isCl x = true then gN S x.toNatClampNeg else -1
def p_answer (S : GS) (x : Int32) : Int32 := if isCl x = true then gA S x.toNatClampNeg else 0
def p_vector (N : Nat) (S : GS) (x y : Int32) : Int32 := if isR N x = true ∧ isR N y = true then rX (rp S x) y.toNatClampNeg else -1
def p_total (N : Nat) (S : GS) (x : Int32) : Int32 := if isR N x = true then tot (fse (rG (rp S x)) (rC (rp S x))) else 0
def hasE (N : Nat) (S : GS) (x k : Int32) : Bool := decide (isR N x = true ∧ ¬ k < 0 ∧ k < nI (rG (rp S x)).length)
theorem hasE_t {x k : Int32} (hN : N ≤ 5) (h : hasE N S x k = true) : ∃ i, i < N ∧ x = nI i := isR_t hN (of_decide_eq_true h).1
def p_entry (N : Nat) (S : GS) (x k : Int32) : Int32 := if hasE N S x k = true then (hd (fse (rG (rp S x)) (k + 1))).2.2 else 0
def p_origin (N : Nat) (S : GS) (x k : Int32) : Int32 := if hasE N S x k = true then (hd (fse (rG (rp S x)) (k + 1))).2.1 * 4 + (hd (fse (rG (rp S x)) (k + 1))).1 else -1
def p_message (S : GS) (k : Int32) : Int32 := match fms S k with
  | none => -1
  | some kk => mK (gM S kk) + 16 * nI (mS (gM S kk)) + 128 * nI (mD (gM S kk)) + 1024 * mV (gM S kk)
def VM (S : GS) : Prop := ∀ k, k < gT S → sml (mV (gM S k))
def p_deliver (N : Nat) (S : GS) (k : Int32) : Int32 × GS := match fms S k with
  | none => (-1, S)
  | some kk => g_recv N S (gM S kk)
def nxk (S : GS) : Int32 := mx (gL S + 1) (nI (gT S) - 64)
def g_lat (S : GS) (k : Int32) : GS := (gT S, k, S.2.2)
def p_next (N : Nat) (S : GS) : Int32 × GS := match fms S (nxk S) with
  | none => (-1, S)
  | some kk => g_recv N (g_lat S (nxk S)) (gM S kk)
def p_remind (N : Nat) (S : GS) (x : Int32) : Int32 × GS := if isR N x = true ∧ leads N (rp S x) x.toNatClampNeg then (1, g_all S x.toNatClampNeg 1 N) else (0, S)
def p_suspect (N : Nat) (S : GS) (x : Int32) : Int32 × GS := if isR N x = true ∧ (rS (rp S x) = 0 ∨ rS (rp S x) = 1) then (1, g_start N S x.toNatClampNeg (rV (rp S x) + 1)) else (0, S)
def olo (S : GS) (i : Nat) : Nat → Int32
  | 0 => 0
  | t + 1 => if ¬ t = i ∧ (rS (gR S t) = 3 ∨ rS (gR S t) = 2) then olo S i t + 1 else olo S i t
def p_crash (N : Nat) (S : GS) (x : Int32) : Int32 × GS := if isR N x = true ∧ ¬ rS (rp S x) = 3 ∧ olo S x.toNatClampNeg N < nI (N / 2) then (1, g_rep S x.toNatClampNeg (3, (r_fresh (rp S x)).2)) else (0, S)
def r_recov (R : RS) (i : Nat) (n : Int32) : RS := (2, 0, 0, [], 0, va_up (fun _ => 0) i n, fun _ => 0, 0, noK, noK, noK, n)
def p_recover (N : Nat) (S : GS) (x n : Int32) : Int32 × GS := if isR N x = true ∧ (rS (rp S x) = 3 ∨ rS (rp S x) = 2) ∧ rN (rp S x) < n then (1, g_all (g_rep S x.toNatClampNeg (r_recov (rp S x) x.toNatClampNeg n)) x.toNatClampNeg 7 N) else (0, S)
def r_add (R : RS) (e : Ent) : RS := (rS R, rV R, rL R, e :: rG R, R.2.2.2.2)
def p_request (N : Nat) (S : GS) (x c n v : Int32) : Int32 × GS :=
  if ¬ (isR N x = true ∧ isCl c = true ∧ 1 ≤ n) then (-1, S)
  else if ¬ leads N (rp S x) x.toNatClampNeg then (-2, S)
  else if n < gno (rG (rp S x)) c 0 then (-3, S)
  else match fnd (rG (rp S x)) c n with
    | some es => if nI es.length ≤ rC (rp S x) then (1, g_ans S es) else (2, S)
    | none => if nI (rG (rp S x)).length < 24 then (0, g_all (g_rep S x.toNatClampNeg (r_add (rp S x) (c, n, v))) x.toNatClampNeg 1 N) else (-4, S)
end PUB
